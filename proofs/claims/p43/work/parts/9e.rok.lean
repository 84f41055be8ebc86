/-! the text's rows are rows of a train -/
section ROK
variable {n : Nat} {B : Nat → Nat} {N N' Z : Nat → Int32} {m S t m' S' t' e e' x0 : Nat} {lr : Bool}
theorem pNum_nat {lo hi : Nat} {v : Int32} (hlo : lo < 999999) (hhi : hi < 999999) (h : pNum B n e lr (Int32.ofNat lo) (Int32.ofNat hi) = .inr (v, e')) : ∃ a, v = Int32.ofNat a ∧ lo ≤ a ∧ a ≤ hi := by
  obtain ⟨h1, h2, -, -⟩ := pNum_in h
  have h0 : ¬ v < 0 := fun h9 => h1 (by
    rw [Int32.lt_iff_toInt_lt] at h9 ⊢
    rw [i_toInt (by omega)]
    have : (0 : Int32).toInt = 0 := by decide
    omega)
  have h9 : v < Int32.ofNat (hi + 1) := by
    rw [Int32.lt_iff_toInt_lt] at h2 ⊢
    rw [i_toInt (by omega)] at h2 ⊢
    omega
  obtain ⟨a, ha, rfl⟩ := nat_lt (by omega) h0 h9
  refine ⟨a, rfl, ?_, by omega⟩
  rw [i_lt (by omega) (by omega)] at h1
  omega
theorem tok_gt (he : e ≤ n) (h : tokK B n e lr = 1 ∨ tokK B n e lr = 2 ∨ tokK B n e lr = 3) : e < tokE B n e ∧ tokE B n e ≤ n := by
  refine ⟨?_, (tokE_le he).2⟩
  obtain ⟨s1, s2⟩ := skp_le (B := B) he
  by_cases h0 : skp B n e = n
  · have := (tokK_0 (lr := lr) h0).1
    omega
  · by_cases h1 : kd (B (skp B n e)) = 1
    · rw [(tokK_1 (lr := lr) h0 h1).2]
      have := run_gt (B := B) (by omega : skp B n e < n) h1
      omega
    · by_cases h2 : kd (B (skp B n e)) = 2
      · rw [(tokK_2 (lr := lr) h0 h2).2]
        have := run_gt (B := B) (by omega : skp B n e < n) h2
        omega
      · rw [(tokK_3 (lr := lr) h0 h1 h2).2]
        omega
theorem pNum_gt {lo hi v : Int32} (he : e ≤ n) (h : pNum B n e lr lo hi = .inr (v, e')) : e < e' ∧ e' ≤ n := by
  obtain ⟨-, -, h1, h2⟩ := pNum_in h
  rw [h1]
  exact tok_gt he (Or.inr (Or.inl h2))
theorem pName_in {s p : Nat} (he : e ≤ n) (h : pName B n e lr = .inr (s, p)) : e < p ∧ p ≤ n ∧ s < p ∧ p - s ≤ 6 ∧ ∀ j, s ≤ j → j < p → 97 ≤ B j ∧ B j ≤ 122 := by
  unfold pName at h
  split at h
  · rename_i hk
    injection h with h
    injection h with h1 h2
    subst h1 h2
    have h3 := tok_gt he (Or.inl hk.1)
    have h4 := tok1_le he hk.1
    exact ⟨h3.1, h3.2, h4.1, hk.2, fun j a b => kd1 ((tok_1 he hk.1).2.2 j a b)⟩
  · cases h
theorem pWord_in {q0 cnt i : Nat} (he : e ≤ n) (h : pWord B n e lr q0 cnt = .inr (i, e')) : i < cnt ∧ e < e' ∧ e' ≤ n := by
  unfold pWord at h
  split at h
  · rename_i hk
    injection h with h
    injection h with h1 h2
    subst h1 h2
    have h3 := tok_gt he (Or.inl hk.1)
    exact ⟨hk.2, h3.1, h3.2⟩
  · cases h
theorem rOk_new {s p a : Nat} (hR : rOk N m S t) (hm : m < 6) (ha : 10 ≤ a) (ha3 : a ≤ 300) (hsp : s < p) (h6 : p - s ≤ 6) (hlet : ∀ j, s ≤ j → j < p → 97 ≤ B j ∧ B j ≤ 122) : rOk (newMuleN B s p N m (Int32.ofNat a)) (m + 1) S t := by
  have hLd := loadsOk_to hR.1.1.2.2.2.2.1 hR.1.2.1 hR.1.2.2.1 hR.2.2.1
  obtain ⟨⟨⟨a1, a2, a3, a4, a5, a6, a7, a8⟩, hO, hW, hE⟩, hP, -, hD, hl⟩ := hR
  have lo : ∀ j, j < 15 + 8 * m → j ≠ 3 → newMuleN B s p N m (Int32.ofNat a) j = N j := fun j h h3 => nM_lo h h3
  have hi : ∀ j, 15 + 8 * m + 8 ≤ j → newMuleN B s p N m (Int32.ofNat a) j = N j := fun j h => nM_hi h
  have h0 : newMuleN B s p N m (Int32.ofNat a) (15 + 8 * m) = Int32.ofNat a := nM_0
  have h1 : newMuleN B s p N m (Int32.ofNat a) (15 + 8 * m + 1) = 0 := nM_1
  have h2 : ∀ j, j < 6 → newMuleN B s p N m (Int32.ofNat a) (15 + 8 * m + 2 + j) = if j < p - s then Int32.ofNat (B (s + j)) else 0 := fun j h => nM_2 h
  have h3 : newMuleN B s p N m (Int32.ofNat a) 3 = Int32.ofNat (m + 1) := nM_3
  generalize newMuleN B s p N m (Int32.ofNat a) = N2 at *
  have on : ∀ mm k, isOnB N2 mm k = isOnB N mm k := fun mm k => isOnB_congr (hi _ (by omega)) (hi _ (by omega))
  have ldEq : ∀ mm k, ldK N2 mm k = ldK N mm k := by
    intro mm k
    induction k with
    | zero => rfl
    | succ k ih => rw [ldK, ldK, ih, on, hi (63 + 8 * k + 1) (by omega)]
  refine rOk_mk ⟨h3, by rw [lo 4 (by omega) (by omega)]; exact a2, by rw [lo 5 (by omega) (by omega)]; exact a3, by omega, a5, a6, fun i hi2 => ?_, fun i hi2 => ?_⟩ (fun k hk => ?_) (weightOk_congr (fun i _ => hi _ (by omega)) hW) (by rw [lo 1 (by omega) (by omega)]; exact hE) (placesOk_congr (fun i _ => ⟨hi _ (by omega), hi _ (by omega)⟩) hP) (fun i hi2 => ?_) (by rw [lo 6 (by omega) (by omega)]; exact hD) (fun i hi2 => ?_)
  · by_cases e : i = m
    · subst e
      exact ⟨a, 0, h0, h1, ha, ha3, by omega⟩
    · obtain ⟨x, y, k1, k2, k3⟩ := a7 i (by omega)
      exact ⟨x, y, by rw [lo _ (by omega) (by omega)]; exact k1, by rw [lo _ (by omega) (by omega)]; exact k2, k3⟩
  · exact stageOk_congr (hi _ (by omega)) (hi _ (by omega)) (a8 i hi2)
  · have h9 := sackOk_congr (N' := N2) (hi _ (by omega)) (hi _ (by omega)) (hi _ (by omega)) (hO k hk)
    rcases h9 with ⟨k1, ⟨j, k2, k3⟩, k4⟩ | k
    · exact Or.inl ⟨k1, ⟨j, by omega, k3⟩, k4⟩
    · exact Or.inr k
  · rw [ldEq]
    by_cases e : i = m
    · subst e
      refine ⟨a, ?_, ?_, ha3⟩
      · rw [bear_val (s := a) (t := 0) h0 (by rw [h1]; rfl) ha3 (by omega)]
        rw [show a * (100 - 0) / 100 = a by omega]
      · rw [ldK_zero S (fun k hk => ?_)]
        · omega
        · rw [isOnB]
          rcases hO k hk with ⟨k1, ⟨j, k2, k3⟩, k4⟩ | ⟨k1, k2, k3⟩
          · rw [k3, show decide (Int32.ofNat j = Int32.ofNat i) = false from decide_eq_false (fun h => by have := i_inj (by omega) (by omega) h; omega), Bool.and_false]
          · rw [decide_eq_false k1, Bool.false_and]
    · obtain ⟨c, k1, k2⟩ := hLd i (by omega)
      exact ⟨c, by rw [bearN_congr (lo _ (by omega) (by omega)) (lo _ (by omega) (by omega))]; exact k1, k2⟩
  · by_cases e : i = m
    · subst e
      refine ⟨p - s, by omega, h6, fun x hx => ?_, fun x hx hx6 => ?_⟩
      · have hb := hlet (s + x) (by omega) (by omega)
        exact ⟨B (s + x), hb.1, hb.2, by rw [h2 x (by omega), if_pos hx]⟩
      · rw [h2 x hx6, if_neg (by omega)]
    · exact lettersOk_congr (fun x hx => lo _ (by omega) (by omega)) (hl i (by omega))
theorem ok_mule (hR : rOk N m S t) (he : e ≤ n) (h : pMule B n x0 e N m S t = .inr (N', m', S', t', e')) : rOk N' m' S' t' ∧ e ≤ e' ∧ e' ≤ n := by
  unfold pMule at h
  split at h
  · cases h
  rename_i hm
  split at h
  · cases h
  rename_i s p hp
  split at h
  · cases h
  split at h
  · cases h
  rename_i v e2 hv
  injection h with h
  simp only [Prod.mk.injEq] at h
  obtain ⟨rfl, rfl, rfl, rfl, rfl⟩ := h
  obtain ⟨p1, p2, p3, p4, p5⟩ := pName_in he hp
  obtain ⟨a, rfl, a1, a2⟩ := pNum_nat (lo := 10) (hi := 300) (by omega) (by omega) hv
  have hg := pNum_gt p2 hv
  have hm6 := hR.1.1.2.2.2.1
  exact ⟨rOk_new hR (by omega) a1 a2 p3 p4 p5, by omega, hg.2⟩
theorem ok_sack (hR : rOk N m S t) (he : e ≤ n) (h : pSack B n x0 e N m S t = .inr (N', m', S', t', e')) : rOk N' m' S' t' ∧ e ≤ e' ∧ e' ≤ n := by
  unfold pSack at h
  split at h
  · cases h
  rename_i hm
  split at h
  · cases h
  rename_i kd e1 hp
  split at h
  · cases h
  rename_i w e2 hw
  split at h
  · cases h
  rename_i v e3 hv
  injection h with h
  simp only [Prod.mk.injEq] at h
  obtain ⟨rfl, rfl, rfl, rfl, rfl⟩ := h
  obtain ⟨p1, p2, p3⟩ := pWord_in he hp
  obtain ⟨a, rfl, a1, a2⟩ := pNum_nat (lo := 1) (hi := 99) (by omega) (by omega) hw
  have hg := pNum_gt p3 hw
  have hg2 := pNum_gt hg.2 hv
  have hS := hR.1.1.2.2.2.2.1
  exact ⟨rOk_brings hR (by omega) a1 a2, by omega, hg2.2⟩
theorem ok_stage {k : Nat} (hk : k < 3) (hR : rOk N m S t) (he : e ≤ n) (h : pStage B n x0 e k N m S t = .inr (N', m', S', t', e')) : rOk N' m' S' t' ∧ e ≤ e' ∧ e' ≤ n := by
  unfold pStage at h
  split at h
  · cases h
  rename_i hm
  split at h
  · cases h
  rename_i v e1 hv
  injection h with h
  simp only [Prod.mk.injEq] at h
  obtain ⟨rfl, rfl, rfl, rfl, rfl⟩ := h
  have hg := pNum_gt he hv
  have ht := hR.1.1.2.2.2.2.2.1
  refine ⟨?_, by omega, hg.2⟩
  rcases (show k = 0 ∨ k = 1 ∨ k = 2 by omega) with rfl | rfl | rfl
  · obtain ⟨a, rfl, a1, a2⟩ := pNum_nat (lo := 1) (hi := 99) (by omega) (by omega) hv
    exact rOk_leads hR (by omega) hk a1 a2 (fun h => by omega)
  · obtain ⟨a, rfl, a1, a2⟩ := pNum_nat (lo := 1) (hi := 9) (by omega) (by omega) hv
    exact rOk_leads hR (by omega) hk a1 (by omega) (fun _ => a2)
  · obtain ⟨a, rfl, a1, a2⟩ := pNum_nat (lo := 1) (hi := 24) (by omega) (by omega) hv
    exact rOk_leads hR (by omega) hk a1 (by omega) (fun h => by omega)
theorem ok_pack (hR : rOk N m S t) (he : e ≤ n) (h : pPack B n e N m S t = .inr (N', m', S', t', e')) : rOk N' m' S' t' ∧ e ≤ e' ∧ e' ≤ n := by
  unfold pPack at h
  split at h
  · cases h
  rename_i v e1 hv
  split at h
  · cases h
  rename_i s p hp
  split at h
  · rename_i hix
    split at h
    · rename_i hpr
      split at h
      · cases h
      rename_i sd e3 hsd
      injection h with h
      simp only [Prod.mk.injEq] at h
      obtain ⟨rfl, rfl, rfl, rfl, rfl⟩ := h
      have hS := hR.1.1.2.2.2.2.1
      obtain ⟨v1, v2, -, -⟩ := pNum_in hv
      obtain ⟨i, hi, rfl⟩ := inB_n (n := S) (by omega) rfl (show inB v 0 (Int32.ofNat S - 1) = true by simp [inB, v1, v2])
      have hcl : (Int32.ofNat i).toNatClampNeg = i := clamp_nn (by omega)
      rw [hcl] at hpr ⊢
      have hg := pNum_gt he hv
      obtain ⟨p1, p2, -⟩ := pName_in hg.2 hp
      obtain ⟨q1, q2, q3⟩ := pWord_in p2 hsd
      refine ⟨rOk_pack hR hi hix ?_ hpr, by omega, q3⟩
      rcases (show sd = 0 ∨ sd = 1 by omega) with rfl | rfl
      · exact Or.inl rfl
      · exact Or.inr rfl
    · cases h
  · cases h
theorem ok_rest (hR : rOk N m S t) (he : e ≤ n) (h : pRest B n e N m S t = .inr (N', m', S', t', e')) : rOk N' m' S' t' ∧ e ≤ e' ∧ e' ≤ n := by
  unfold pRest at h
  split at h
  · cases h
  rename_i v e1 hv
  injection h with h
  simp only [Prod.mk.injEq] at h
  obtain ⟨rfl, rfl, rfl, rfl, rfl⟩ := h
  obtain ⟨D, d1, d2⟩ := hR.2.2.2.1
  have hg := pNum_gt he hv
  have hsub : (9999 : Int32) - N 6 = Int32.ofNat (9999 - D) := by
    rw [d1, show (9999 : Int32) = Int32.ofNat 9999 from rfl, i_sub d2]
  have hrm : ∃ r, restMost N = Int32.ofNat r ∧ r ≤ 99 ∧ D + r ≤ 9999 := by
    rw [restMost, hsub]
    by_cases h9 : Int32.ofNat (9999 - D) < 99
    · rw [if_pos h9]
      rw [show (99 : Int32) = Int32.ofNat 99 from rfl, i_lt (by omega) (by omega)] at h9
      exact ⟨9999 - D, rfl, by omega, by omega⟩
    · rw [if_neg h9]
      rw [show (99 : Int32) = Int32.ofNat 99 from rfl, i_lt (by omega) (by omega)] at h9
      exact ⟨99, rfl, by omega, by omega⟩
  obtain ⟨r, r1, r2, r3⟩ := hrm
  rw [r1] at hv
  obtain ⟨a, rfl, a1, a2⟩ := pNum_nat (lo := 1) (hi := r) (by omega) (by omega) hv
  rw [clamp_nn (by omega)]
  exact ⟨rOk_rest hR d1 (by omega), by omega, hg.2⟩
theorem ok_trip (hR : rOk N m S t) (he : e ≤ n) (h : pTrip x0 e N m S t = .inr (N', m', S', t', e')) : rOk N' m' S' t' ∧ e ≤ e' ∧ e' ≤ n := by
  unfold pTrip at h
  split at h
  · rename_i hw
    injection h with h
    simp only [Prod.mk.injEq] at h
    obtain ⟨rfl, rfl, rfl, rfl, rfl⟩ := h
    obtain ⟨D, d1, d2⟩ := hR.2.2.2.1
    have hD : D < 9999 := by
      rcases Nat.lt_or_ge D 9999 with h8 | h8
      · exact h8
      · exact absurd (by rw [d1, show D = 9999 by omega]; rfl) hw.2
    exact ⟨rOk_trip (G0 := fun _ => 0) hR d1 hD, Nat.le_refl _, he⟩
  · cases h
theorem ok_line (hR : rOk N m S t) (he : e ≤ n) (h : pLine B n e N m S t = .inr (N', m', S', t', e')) : rOk N' m' S' t' ∧ e < e' ∧ e' ≤ n := by
  unfold pLine at h
  split at h
  · rename_i hk
    have hg := tok_gt he (Or.inl hk)
    have fin : (rOk N' m' S' t' ∧ tokE B n e ≤ e' ∧ e' ≤ n) → rOk N' m' S' t' ∧ e < e' ∧ e' ≤ n := fun ⟨a, b, c⟩ => ⟨a, by omega, c⟩
    refine fin ?_
    split at h
    · exact ok_mule hR hg.2 h
    split at h
    · exact ok_sack hR hg.2 h
    split at h
    · exact ok_stage (by omega) hR hg.2 h
    split at h
    · exact ok_stage (by omega) hR hg.2 h
    split at h
    · exact ok_stage (by omega) hR hg.2 h
    split at h
    · exact ok_pack hR hg.2 h
    split at h
    · exact ok_rest hR hg.2 h
    split at h
    · exact ok_trip hR hg.2 h
    · cases h
  · cases h
theorem ok_head (hZ : ∀ j, j < 207 → Z j = 0) (h : pHead Z B n = .inr (N', m', S', t', e')) : rOk N' m' S' t' ∧ m' = 0 ∧ S' = 0 ∧ t' = 0 ∧ 0 < e' ∧ e' ≤ n := by
  unfold pHead at h
  split at h
  · rename_i hk
    have hg := tok_gt (Nat.zero_le n) (Or.inl hk.1)
    split at h
    · cases h
    rename_i a e1 ha
    split at h
    · cases h
    rename_i b e2 hb
    split at h
    · cases h
    rename_i c e3 hc
    injection h with h
    simp only [Prod.mk.injEq] at h
    obtain ⟨rfl, rfl, rfl, rfl, rfl⟩ := h
    have g1 := pNum_gt hg.2 ha
    have g2 := pNum_gt g1.2 hb
    have g3 := pNum_gt g2.2 hc
    obtain ⟨x, rfl, -, -⟩ := pNum_nat (lo := 0) (hi := 99) (by omega) (by omega) ha
    obtain ⟨y, rfl, -, y2⟩ := pNum_nat (lo := 0) (hi := 50) (by omega) (by omega) hb
    obtain ⟨z, rfl, -, -⟩ := pNum_nat (lo := 0) (hi := 50) (by omega) (by omega) hc
    exact ⟨rOk_set (rOk_set (rOk_set (rOk_congr hZ rOk_zero) (k := 0) (by omega) (fun h => by omega)) (k := 1) (by omega) (fun _ => y2)) (k := 2) (by omega) (fun h => by omega), rfl, rfl, rfl, by omega, g3.2⟩
  · cases h
theorem ok_lines : ∀ (f : Nat) (N : Nat → Int32) (m S t e : Nat), rOk N m S t → e ≤ n → pLines B n f (N, m, S, t, e) = .inr (N', m', S', t', e') → rOk N' m' S' t' := by
  intro f
  induction f with
  | zero =>
    intro N m S t e hR he h
    unfold pLines at h
    injection h with h
    simp only [Prod.mk.injEq] at h
    obtain ⟨rfl, rfl, rfl, rfl, rfl⟩ := h
    exact hR
  | succ f ih =>
    intro N m S t e hR he h
    unfold pLines at h
    split at h
    · cases h
    · injection h with h
      simp only [Prod.mk.injEq] at h
      obtain ⟨rfl, rfl, rfl, rfl, rfl⟩ := h
      exact hR
    · rename_i e1 hE
      have he1 : e1 ≤ n := by
        unfold pEnd at hE
        split at hE
        · injection hE with hE
          injection hE with h1 h2
          rw [← h2]; exact (tokE_le he).2
        · split at hE
          · injection hE with hE
            injection hE with h1 h2
            rw [← h2]; exact (tokE_le he).2
          · cases hE
      split at h
      · cases h
      · rename_i x hx
        obtain ⟨N2, m2, S2, t2, e2⟩ := x
        obtain ⟨r1, r2, r3⟩ := ok_line hR he1 hx
        exact ih N2 m2 S2 t2 e2 r1 r3 h
theorem ok_text (hZ : ∀ j, j < 207 → Z j = 0) (h : pText Z B n = .inr (N', m', S', t', e')) : rOk N' m' S' t' := by
  unfold pText at h
  split at h
  · cases h
  · rename_i x hx
    obtain ⟨N2, m2, S2, t2, e2⟩ := x
    obtain ⟨r1, -, -, -, -, r3⟩ := ok_head hZ hx
    exact ok_lines 701 N2 m2 S2 t2 e2 r1 r3 h
end ROK
