/-! the class's deliveries, wages, bits -/
theorem TrN_obj {M : mM} {b : Nat} {N : Nat → Int32} {m S t f : Nat} {x : Int32} (hT : TrN M b N m S t) (hf : f = 5 ∨ f = 6) : TrN (upM M b (upd (M b) f x)) b (upd N (f + 1) x) m S t := by
  obtain ⟨⟨a1, a2, a3, a4, a5, a6⟩, ⟨b1, b2⟩, ⟨c1, c2⟩, ⟨d1, d2⟩, ⟨e1, e2⟩, f1, g1, h1, i1, j1⟩ := hT
  have ne : ∀ q, q ≠ b → upM M b (upd (M b) f x) q = M q := fun q hq => upM_ne hq
  have nu : ∀ j, j < 6 ∨ 7 < j → upd N (f + 1) x j = N j := fun j hj => upd_ne (by omega)
  refine ⟨⟨by rw [nu 3 (by omega)]; exact a1, by rw [nu 4 (by omega)]; exact a2, by rw [nu 5 (by omega)]; exact a3, a4, a5, a6⟩, ?_, ⟨by rw [ne _ (by omega)]; exact c1, by rw [ne _ (by omega)]; exact c2⟩, ⟨by rw [ne _ (by omega)]; exact d1, by rw [ne _ (by omega)]; exact d2⟩, ⟨by rw [ne _ (by omega)]; exact e1, by rw [ne _ (by omega)]; exact e2⟩, fun j hj => by rw [ne _ (by omega), nu j (by omega)]; exact f1 j hj, fun j hj => by rw [ne _ (by omega), nu _ (by omega)]; exact g1 j hj, fun i' c' hi' hc' => by rw [ne _ (by omega), nu _ (by omega)]; exact h1 i' c' hi' hc', fun i' hi' => ?_, fun i' c' hi' hc' => by rw [ne _ (by omega), nu _ (by omega)]; exact j1 i' c' hi' hc'⟩
  · rw [upM_at]
    rcases hf with rfl | rfl
    · exact ⟨by rw [upd_at, upd_at], by rw [upd_ne (by decide), upd_ne (by decide)]; exact b2⟩
    · exact ⟨by rw [upd_ne (by decide), upd_ne (by decide)]; exact b1, by rw [upd_at, upd_at]⟩
  · obtain ⟨k1, k2, k3, k4⟩ := i1 i' hi'
    refine ⟨by rw [ne _ (by omega), nu _ (by omega)]; exact k1, by rw [ne _ (by omega), nu _ (by omega)]; exact k2, ?_, fun j hj => by rw [ne _ (by omega), nu _ (by omega)]; exact k4 j hj⟩
    rw [ne _ (by omega), lettN_congr (N := N) (fun n hn => nu _ (by omega))]; exact k3
theorem del_eq {N : Nat → Int32} {k : Nat} : upd (offN (upd (upd N 7 (N 7 + N (63 + 8 * k + 2))) 9 (N 9 + N (63 + 8 * k + 2))) k 2) (63 + 8 * k + 6) (N 6) = del1 N k := by
  rw [del1, leaveN, show decide ((2 : Int32) = 0) = false from by decide, cond_false, offN, upd_comm (show (7 : Nat) ≠ 9 by decide)]
  rw [upd_ne (show 6 ≠ 7 by decide), countN_at (show 6 ≠ 8 + 1 by decide), countN_at (show 7 ≠ 8 + 1 by decide), countN_at (show 63 + 8 * k + 2 ≠ 8 + 1 by omega), countN]
theorem pay_eq {g N : Nat → Int32} : ∀ k, payN g N k = upd (upd N 7 (N 7 - sm g k * N 2)) 13 (N 13 + sm g k * N 2) := by
  intro k
  induction k with
  | zero =>
    funext j
    show N j = _
    rw [show sm g 0 = 0 from rfl, Int32.zero_mul, Int32.sub_zero, Int32.add_zero]
    by_cases h : j = 13
    · rw [h, upd_at]
    · rw [upd_ne h]
      by_cases h2 : j = 7
      · rw [h2, upd_at]
      · rw [upd_ne h2]
  | succ k ih =>
    rw [payN, ih, pay1]
    generalize hP : upd (upd N 7 (N 7 - sm g k * N 2)) 13 (N 13 + sm g k * N 2) = P
    have p2 : P 2 = N 2 := by rw [← hP, upd_ne (by decide), upd_ne (by decide)]
    have p7 : P 7 = N 7 - sm g k * N 2 := by rw [← hP, upd_ne (by decide), upd_at]
    have p13 : P 13 = N 13 + sm g k * N 2 := by rw [← hP, upd_at]
    rw [p2, p7, upd_ne (show 2 ≠ 7 by decide), p2, countN, show 8 + 5 = 13 from rfl, upd_ne (show 13 ≠ 7 by decide), p13, sm, Int32.add_mul]
    rw [show N 7 - sm g k * N 2 - g k * N 2 = N 7 - (sm g k * N 2 + g k * N 2) by rw [Int32.sub_eq_add_neg, Int32.sub_eq_add_neg, Int32.sub_eq_add_neg, Int32.neg_add, Int32.sub_eq_add_neg, Int32.add_assoc], show N 13 + sm g k * N 2 + g k * N 2 = N 13 + (sm g k * N 2 + g k * N 2) from Int32.add_assoc _ _ _]
    funext j
    by_cases h : j = 13
    · rw [h, upd_at, upd_at]
    · rw [upd_ne h, upd_ne h]
      by_cases h2 : j = 7
      · rw [h2, upd_at, upd_at]
      · rw [upd_ne h2, upd_ne h2, ← hP, upd_ne h, upd_ne h2]
def bitsN (N : Nat → Int32) : Nat → Nat
  | 0 => 0
  | k + 1 => bitsN N k ||| (bif decide (N (63 + 8 * k + 3) = 1) then 2 ^ (N (63 + 8 * k + 4)).toNatClampNeg else 0)
theorem bits_or : ∀ a, a < 64 → ∀ j, j < 6 → Int32.ofNat a ||| ((1 : Int32) <<< (Int32.ofNat j &&& 31)) = Int32.ofNat (a ||| 2 ^ j) := by decide +kernel
theorem bits_at : ∀ a, a < 64 → ∀ j, j < 6 → decide ((Int32.ofNat a >>> (Int32.ofNat j &&& 31)) &&& 1 = 0) = !a.testBit j := by decide +kernel
theorem sackOk_on {N : Nat → Int32} {m k : Nat} (hm : m ≤ 6) (h : sackOk N m k) : (N (63 + 8 * k + 3) = 1 ∧ ∃ j, j < m ∧ N (63 + 8 * k + 4) = Int32.ofNat j ∧ (N (63 + 8 * k + 4)).toNatClampNeg = j) ∨ (¬ N (63 + 8 * k + 3) = 1 ∧ N (63 + 8 * k + 4) = -1) := by
  rcases h with ⟨h1, ⟨j, h2, h3⟩, _⟩ | ⟨h1, h2, _⟩
  · exact Or.inl ⟨h1, j, h2, h3, by rw [h3]; exact clamp_n (n := 6) (by omega) (by omega)⟩
  · exact Or.inr ⟨h1, h2⟩
theorem bitsN_lt {N : Nat → Int32} {m S : Nat} (hm : m ≤ 6) (hO : sacksOk N m S) : ∀ k, k ≤ S → bitsN N k < 2 ^ m := by
  intro k
  induction k with
  | zero => intro _; exact Nat.two_pow_pos m
  | succ k ih =>
    intro hk
    rw [bitsN]
    refine Nat.or_lt_two_pow (ih (by omega)) ?_
    rcases sackOk_on hm (hO k (by omega)) with ⟨h1, j, h2, h3, h4⟩ | ⟨h1, h2⟩
    · rw [decide_eq_true h1, cond_true, h4]
      exact Nat.pow_lt_pow_right (by decide) h2
    · rw [decide_eq_false h1, cond_false]
      exact Nat.two_pow_pos m
theorem bitsN_at {N : Nat → Int32} {m S j : Nat} (hm : m ≤ 6) (hj : j < 6) (hO : sacksOk N m S) : ∀ k, k ≤ S → (bitsN N k).testBit j = decide (0 < cntN N (Int32.ofNat j) k) := by
  intro k
  induction k with
  | zero => intro _; exact Nat.zero_testBit j
  | succ k ih =>
    intro hk
    rw [bitsN, Nat.testBit_or, ih (by omega), cntN]
    rcases sackOk_on hm (hO k (by omega)) with ⟨h1, i, h2, h3, h4⟩ | ⟨h1, h2⟩
    · rw [decide_eq_true h1, cond_true, h4, isOnB, decide_eq_true h1, Bool.true_and, h3, Nat.testBit_two_pow]
      by_cases e : i = j
      · rw [decide_eq_true e, e, decide_eq_true rfl, cond_true, Bool.or_true]
        exact (decide_eq_true (Nat.succ_pos _)).symm
      · rw [decide_eq_false e, decide_eq_false (fun h => e (i_inj (by omega) (by omega) h)), Bool.or_false]; rfl
    · rw [decide_eq_false h1, cond_false, isOnB, decide_eq_false h1, Bool.false_and, Nat.zero_testBit, Bool.or_false]; rfl
theorem sOn_cnt {N : Nat → Int32} {mm : Int32} : ∀ n, sOn N mm n = Int32.ofNat (cntN N mm n) := by
  intro n
  induction n with
  | zero => rfl
  | succ n ih =>
    show sOn N mm n + zb (isOnB N mm n) = Int32.ofNat (cntN N mm n + _)
    rw [ih, ← i_add]
    cases isOnB N mm n <;> rfl
section CLS
variable {RO : List mE} {d sb : Nat} {ext : List sh} {M : mM} {Q : mQ} {b m S t : Nat} {N : Nat → Int32} {GG : List sh}
theorem c_mulesWithSacks (hb : bas GG b) (hT : TrN M b N m S t) (hO : sacksOk N m S) : EvR RO (d + 2) 60 [.ref b] GG M (some (.int (Int32.ofNat (bitsN N S)))) M := by
  have hm := hT.1.2.2.2.1
  have hS := hT.1.2.2.2.2.1
  have hu := hT.2.2.1.2
  have at4 := fun d k (hk : k < S) => c_atS (RO := RO) (d := d) (GG := GG) (c := 4) hb hT hk (by omega)
  refine EvR.of (fun Q hQ => ?_)
  rcases hb with ⟨rfl, sb, ext, rfl⟩ | ⟨rfl, sb, ext, rfl⟩ | ⟨rfl, c9, r9, rfl⟩
  all_goals
    refine EvP.wp [4] 40 rfl ?_
    refine up_ind (S := S) (H := fun k => ∀ v : Value, GoP RO (d + 1) 60 [.ref _, .int (Int32.ofNat (bitsN N k)), .int (Int32.ofNat k), v] [] _ M 4 0 0 Q) (fun v => ?_) (fun k hk ih v => ?_) 0 (by omega) _
    · refine wp_sound [4] 60 _ _ _ _ _ _ _ ?_
      refine lt_if rfl hu (by omega) (by omega) (fun h => absurd h (by omega)) (fun _ => ?_)
      exact hQ
    · have hlt := bitsN_lt hm hO k (by omega)
      have h64 : 2 ^ m ≤ 64 := Nat.pow_le_pow_right (by decide) hm
      refine wp_sound [4] 60 _ _ _ _ _ _ _ ?_
      refine lt_if rfl hu (by omega) (by omega) (fun _ => ?_) (fun h => absurd h (by omega))
      refine (at4 _ k hk).use ?_
      rcases sackOk_on hm (hO k hk) with ⟨h1, j, h2, h3, h4⟩ | ⟨h1, h2⟩
      · refine ⟨fun h => absurd h (by rw [h3]; exact i_nonneg (by omega)), fun _ => ?_⟩
        refine GoP.eq2 (ih (.int (N (63 + 8 * k + 4)))) ?_ rfl
        rw [i_inc, bitsN, decide_eq_true h1, cond_true, h4, ← bits_or _ (by omega) j (by omega), h3]
      · refine ⟨fun _ => ?_, fun h => absurd (by rw [h2]; decide) h⟩
        refine GoP.eq2 (ih (.int (N (63 + 8 * k + 4)))) ?_ rfl
        rw [i_inc, bitsN, decide_eq_false h1, cond_false, Nat.or_zero]
        show [_, Value.int (Int32.ofNat (bitsN N k) ||| 0), _, _] = _
        rw [Int32.or_zero]
theorem c_payWages {G : Int32} (hb : bas GG b) (hT : TrN M b N m S t) (hQ : ∀ M', TrN M' b (upd (upd N 7 (N 7 - G * N 2)) 13 (N 13 + G * N 2)) m S t → FrB b M M' → Q (.inl none) GG M' 0 0) : EvP RO (d + 1) 65 [.ref b, .int G] GG M Q := by
  have g2 : M (b + 7) 2 = N 2 := hT.2.2.2.2.2.1 2 (by omega)
  have g5 : M (b + 8) 5 = N 13 := hT.2.2.2.2.2.2.1 5 (by omega)
  have gm : M b 6 = N 7 := hT.2.1.2
  have t1 := TrN_obj (f := 6) (x := N 7 - G * N 2) hT (Or.inr rfl)
  have t2 := TrN_count (w := 5) (x := N 13 + G * N 2) t1 (by omega)
  have hq := hQ _ t2 ((FrB.up (by omega)).trans (FrB.up (by omega)))
  rw [← g2, ← g5, ← gm] at hq
  rcases hb with ⟨rfl, sb, ext, rfl⟩ | ⟨rfl, sb, ext, rfl⟩ | ⟨rfl, c9, r9, rfl⟩
  all_goals
    refine EvP.wp [] 60 rfl ?_
    refine ⟨2, rfl, by omega, ?_⟩
    refine ⟨5, rfl, by omega, ?_⟩
    refine ⟨2, rfl, by omega, ?_⟩
    refine ⟨5, rfl, by omega, ?_⟩
    exact hq
end CLS
