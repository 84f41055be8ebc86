/-! the class's roads and fords -/
theorem upd_comm {f : Nat → Int32} {i j : Nat} {a b : Int32} (h : i ≠ j) : upd (upd f i a) j b = upd (upd f j b) i a := by
  funext x
  by_cases h1 : x = i
  · subst h1; rw [upd_ne h, upd_at, upd_at]
  · rw [upd_ne (i := x) (j := i) h1]
    by_cases h2 : x = j
    · subst h2; rw [upd_at, upd_at]
    · rw [upd_ne h2, upd_ne h2, upd_ne h1]
def brk1 (N : Nat → Int32) (k : Nat) : Nat → Int32 := upd (countN N 4 (N (63 + 8 * k + 2))) (63 + 8 * k + 2) 0
theorem brk1_at {N : Nat → Int32} {k j : Nat} (h : j ≠ 12) (h2 : j ≠ 63 + 8 * k + 2) : brk1 N k j = N j := by
  rw [brk1, upd_ne h2, countN_at h]
theorem wet1_ne {N : Nat → Int32} {k j : Nat} (h : j ≠ 11) (h1 : j ≠ 14) (h2 : j ≠ 63 + 8 * k + 2) : wet1 N k j = N j := by
  rw [wet1, upd_ne h2, countN_at h1, countN_at h]
theorem wet1_w {N : Nat → Int32} {k : Nat} : wet1 N k (63 + 8 * k + 2) = wetB (N (63 + 8 * k)) (N (63 + 8 * k + 2)) := by rw [wet1, upd_at]
theorem wet1_14 {N : Nat → Int32} {k : Nat} : wet1 N k 14 = N 14 + 1 := by
  rw [wet1, upd_ne (by omega)]
  show countN _ 6 1 (8 + 6) = _
  rw [countN, upd_at, countN_at (by decide)]
theorem wet1_11 {N : Nat → Int32} {k : Nat} : wet1 N k 11 = N 11 + (N (63 + 8 * k + 2) - wetB (N (63 + 8 * k)) (N (63 + 8 * k + 2))) := by
  rw [wet1, upd_ne (by omega), countN_at (by decide)]
  show countN N 3 _ (8 + 3) = _
  rw [countN, upd_at]
theorem brk1_12 {N : Nat → Int32} {k : Nat} : brk1 N k 12 = N 12 + N (63 + 8 * k + 2) := by
  rw [brk1, upd_ne (by omega)]
  show countN N 4 _ (8 + 4) = _
  rw [countN, upd_at]
theorem wet_brk1 {Y : Nat → Int32} {n k : Nat} (h : n < k) : wet1 (brk1 Y k) n = brk1 (wet1 Y n) k := by
  have a1 := brk1_at (N := Y) (k := k) (j := 11) (by decide) (by omega)
  have a2 := brk1_at (N := Y) (k := k) (j := 63 + 8 * n) (by omega) (by omega)
  have a3 := brk1_at (N := Y) (k := k) (j := 63 + 8 * n + 2) (by omega) (by omega)
  have a4 := brk1_at (N := Y) (k := k) (j := 14) (by decide) (by omega)
  have b1 := wet1_ne (N := Y) (k := n) (j := 12) (by decide) (by decide) (by omega)
  have b2 := wet1_ne (N := Y) (k := n) (j := 63 + 8 * k + 2) (by omega) (by omega) (by omega)
  funext j
  by_cases e1 : j = 63 + 8 * n + 2
  · rw [e1, wet1_w, a2, a3, brk1_at (by omega) (by omega), wet1_w]
  · by_cases e2 : j = 14
    · rw [e2, brk1_at (j := 14) (by decide) (by omega), wet1_14, wet1_14, a4]
    · by_cases e3 : j = 11
      · rw [e3, brk1_at (j := 11) (by decide) (by omega), wet1_11, wet1_11, a1, a2, a3]
      · rw [wet1_ne e3 e2 e1]
        by_cases e4 : j = 63 + 8 * k + 2
        · rw [e4, brk1, upd_at, brk1, upd_at]
        · by_cases e5 : j = 12
          · rw [e5, brk1_12, brk1_12, b1, b2]
          · rw [brk1_at e5 e4, brk1_at e5 e4, wet1_ne e3 e2 e1]
theorem brk1_on {Y : Nat → Int32} {mm : Int32} {k i : Nat} : isOnB (brk1 Y k) mm i = isOnB Y mm i := isOnB_congr (brk1_at (by omega) (by omega)) (brk1_at (by omega) (by omega))
theorem wet1_on {Y : Nat → Int32} {mm : Int32} {k i : Nat} : isOnB (wet1 Y k) mm i = isOnB Y mm i := isOnB_congr (wet1_ne (by omega) (by omega) (by omega)) (wet1_ne (by omega) (by omega) (by omega))
theorem wetN_brk {X : Nat → Int32} {mm : Int32} {k : Nat} : ∀ n, n ≤ k → wetN (brk1 X k) mm n = brk1 (wetN X mm n) k := by
  intro n
  induction n with
  | zero => intro _; rfl
  | succ n ih =>
    intro hn
    rw [wetN, wetN, ih (by omega), brk1_on]
    cases isOnB (wetN X mm n) mm n with
    | false => rfl
    | true => exact wet_brk1 (by omega)
theorem wetN_on {X : Nat → Int32} {mm : Int32} {i : Nat} : ∀ n, isOnB (wetN X mm n) mm i = isOnB X mm i := by
  intro n
  induction n with
  | zero => rfl
  | succ n ih =>
    rw [wetN]
    cases isOnB (wetN X mm n) mm n with
    | false => exact ih
    | true => rw [cond_true, wet1_on]; exact ih
theorem brkN_s {N : Nat → Int32} {mm : Int32} {i : Nat} : brkN N mm (i + 1) = bif isOnB (brkN N mm i) mm i && decide (brkN N mm i (63 + 8 * i) = 3) then brk1 (brkN N mm i) i else brkN N mm i := rfl
theorem brkN_on {N : Nat → Int32} {mm : Int32} {i : Nat} : ∀ n, isOnB (brkN N mm n) mm i = isOnB N mm i := by
  intro n
  induction n with
  | zero => rfl
  | succ n ih =>
    rw [brkN_s]
    cases isOnB (brkN N mm n) mm n && decide (brkN N mm n (63 + 8 * n) = 3) with
    | false => exact ih
    | true => rw [cond_true, brk1_on]; exact ih
theorem wetN_k {X : Nat → Int32} {mm : Int32} {i : Nat} : ∀ n, wetN X mm n (63 + 8 * i) = X (63 + 8 * i) := by
  intro n
  induction n with
  | zero => rfl
  | succ n ih =>
    rw [wetN]
    cases isOnB (wetN X mm n) mm n with
    | false => exact ih
    | true => rw [cond_true, wet1_ne (by omega) (by omega) (by omega)]; exact ih
def crossN (N : Nat → Int32) (mm : Int32) (sh wet : Bool) : Nat → (Nat → Int32)
  | 0 => N
  | k + 1 => bif isOnB (crossN N mm sh wet k) mm k then (bif wet then wet1 (bif sh && decide (crossN N mm sh wet k (63 + 8 * k) = 3) then brk1 (crossN N mm sh wet k) k else crossN N mm sh wet k) k else (bif sh && decide (crossN N mm sh wet k (63 + 8 * k) = 3) then brk1 (crossN N mm sh wet k) k else crossN N mm sh wet k)) else crossN N mm sh wet k
theorem cross_eq {N : Nat → Int32} {mm : Int32} {sh wet : Bool} : ∀ n, crossN N mm sh wet n = bif wet then wetN (bif sh then brkN N mm n else N) mm n else (bif sh then brkN N mm n else N) := by
  intro n
  induction n with
  | zero => cases wet <;> cases sh <;> rfl
  | succ n ih =>
    rw [crossN, ih]
    cases wet with
    | false =>
      cases sh with
      | false => simp only [cond_false, Bool.false_and]; cases isOnB N mm n <;> rfl
      | true =>
        simp only [cond_false, cond_true, Bool.true_and]
        rw [brkN_s]
        cases isOnB (brkN N mm n) mm n <;> rfl
    | true =>
      cases sh with
      | false =>
        simp only [cond_false, cond_true, Bool.false_and]
        rw [wetN]
      | true =>
        simp only [cond_true, Bool.true_and]
        simp only [wetN_on, wetN_k]
        rw [brkN_s, wetN]
        cases h1 : isOnB (brkN N mm n) mm n with
        | false => simp only [cond_false, Bool.false_and, wetN_on, h1]
        | true =>
          cases h2 : decide (brkN N mm n (63 + 8 * n) = 3) with
          | false => simp only [cond_false, cond_true, Bool.true_and, wetN_on, h1]
          | true => simp only [cond_true, Bool.and_self, wetN_on, h1, brk1_on, wetN_brk n (Nat.le_refl _)]
theorem wet_eq {N : Nat → Int32} {k : Nat} {w : Int32} (hw : w = wetB (N (63 + 8 * k)) (N (63 + 8 * k + 2))) : upd (upd (upd N (63 + 8 * k + 2) w) 11 (N 11 + (N (63 + 8 * k + 2) - w))) 14 (N 14 + 1) = wet1 N k := by
  rw [wet1, ← hw, upd_comm (i := 63 + 8 * k + 2) (j := 11) (by omega), upd_comm (i := 63 + 8 * k + 2) (j := 14) (by omega)]
  rw [countN, countN, upd_ne (show 8 + 6 ≠ 8 + 3 by decide)]
section CLS
variable {RO : List mE} {d sb : Nat} {ext : List sh} {M : mM} {Q : mQ} {b m S t : Nat} {N : Nat → Int32} {GG : List sh}
theorem c_wetSack {k : Nat} (hb : bas GG b) (hT : TrN M b N m S t) (hk : k < S) (hQ : ∀ M', TrN M' b (wet1 N k) m S t → FrB b M M' → Q (.inl none) GG M' 0 0) : EvP RO (d + 2) 77 [.ref b, .int (Int32.ofNat k)] GG M Q := by
  have q2 := fun d => c_atS (RO := RO) (d := d) (GG := GG) (c := 2) hb hT hk (by omega)
  have q0 := fun d => c_atS (RO := RO) (d := d) (GG := GG) (c := 0) hb hT hk (by omega)
  have fin : ∀ w, w = wetB (N (63 + 8 * k)) (N (63 + 8 * k + 2)) → (∀ d, EvR RO (d + 1) 38 [.ref (b + 1), .int (Int32.ofNat k), .int (Int32.ofNat 2), .int w] GG M none (upM M (b + 2) (upd (M (b + 2)) (8 * k + 2) w))) ∧ Q (.inl none) GG (upM (upM (upM M (b + 2) (upd (M (b + 2)) (8 * k + 2) w)) (b + 8) (upd (M (b + 8)) 3 (M (b + 8) 3 + (N (63 + 8 * k + 2) - w)))) (b + 8) (upd (upd (M (b + 8)) 3 (M (b + 8) 3 + (N (63 + 8 * k + 2) - w))) 6 (upd (M (b + 8)) 3 (M (b + 8) 3 + (N (63 + 8 * k + 2) - w)) 6 + 1))) 0 0 := by
    intro w hw
    refine ⟨fun d => c_putS (c := 2) hb hT hk (by omega), ?_⟩
    have t1 := TrN_putS (c := 2) (x := w) hT hk (by omega)
    have t2 := TrN_count (w := 3) (x := N 11 + (N (63 + 8 * k + 2) - w)) t1 (by omega)
    have t3 := TrN_count (w := 6) (x := N 14 + 1) t2 (by omega)
    rw [show upd (upd (upd N (63 + 8 * k + 2) w) (8 + 3) (N 11 + (N (63 + 8 * k + 2) - w))) (8 + 6) (N 14 + 1) = wet1 N k from wet_eq hw] at t3
    have hq := hQ _ t3 (((FrB.up (by omega)).trans (FrB.up (by omega))).trans (FrB.up (by omega)))
    have g3 : M (b + 8) 3 = N 11 := hT.2.2.2.2.2.2.1 3 (by omega)
    have g6 : M (b + 8) 6 = N 14 := hT.2.2.2.2.2.2.1 6 (by omega)
    rw [g3, upd_ne (show 6 ≠ 3 by decide), g6]
    rw [upM_at, upM_ne (show b + 8 ≠ b + 2 by omega)] at hq
    exact hq
  rcases hb with ⟨rfl, sb, ext, rfl⟩ | ⟨rfl, sb, ext, rfl⟩ | ⟨rfl, c9, r9, rfl⟩
  all_goals
    refine EvP.wp [] 60 rfl ?_
    refine (q2 _).use ?_
    refine (q0 _).use ?_
    refine de_if (fun h1 => ?_) (fun h1 => ?_)
    · refine ⟨by decide, ?_⟩
      obtain ⟨r1, r2⟩ := fin (N (63 + 8 * k + 2) / 2) (by rw [wetB, show decide (N (63 + 8 * k) = 0) = true from h1]; rfl)
      refine (r1 _).use ?_
      refine ⟨3, rfl, by omega, ?_⟩
      refine ⟨3, rfl, by omega, ?_⟩
      refine ⟨6, rfl, by omega, ?_⟩
      refine ⟨6, rfl, by omega, ?_⟩
      exact r2
    · refine de_if (fun h2 => ?_) (fun h2 => ?_)
      · refine ⟨by decide, ?_⟩
        obtain ⟨r1, r2⟩ := fin (N (63 + 8 * k + 2) * 3 / 4) (by rw [wetB, show decide (N (63 + 8 * k) = 0) = false from h1, cond_false, show decide (N (63 + 8 * k) = 1) = true from h2, cond_true, Int32.mul_comm 3])
        refine (r1 _).use ?_
        refine ⟨3, rfl, by omega, ?_⟩
        refine ⟨3, rfl, by omega, ?_⟩
        refine ⟨6, rfl, by omega, ?_⟩
        refine ⟨6, rfl, by omega, ?_⟩
        exact r2
      · obtain ⟨r1, r2⟩ := fin (N (63 + 8 * k + 2)) (by rw [wetB, show decide (N (63 + 8 * k) = 0) = false from h1, cond_false, show decide (N (63 + 8 * k) = 1) = false from h2, cond_false])
        refine (r1 _).use ?_
        refine ⟨3, rfl, by omega, ?_⟩
        refine ⟨3, rfl, by omega, ?_⟩
        refine ⟨6, rfl, by omega, ?_⟩
        refine ⟨6, rfl, by omega, ?_⟩
        exact r2
end CLS
