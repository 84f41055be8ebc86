/-! the class's tokens, whole -/
def CR (M : mM) (n e : Nat) (lr : Bool) : Prop := M 1 4 = Int32.ofNat e ∧ e ≤ n ∧ (lr = true → M 1 8 = Int32.ofNat e) ∧ (lr = false → M 1 8 = -1 ∨ ∃ r, r < e ∧ M 1 8 = Int32.ofNat r)
def gl (B : Nat → Nat) (n e : Nat) (lr : Bool) : Bool := lr && Nat.beq (skp B n e) e
def TokC (M M' : mM) (B : Nat → Nat) (n e : Nat) (lr : Bool) : Prop := FrT M M' ∧ M' 1 5 = Int32.ofNat (skp B n e) ∧ M' 1 6 = Int32.ofNat (tokK B n e lr) ∧ (tokK B n e lr < 3 → M' 1 4 = Int32.ofNat (tokE B n e)) ∧ (tokK B n e lr = 2 → M' 1 7 = nmV B (skp B n e) (tokE B n e - skp B n e)) ∧ (tokK B n e lr = 1 ∨ tokK B n e lr = 2 → CR M' n (tokE B n e) true) ∧ (tokK B n e lr = 3 → CR M' n (tokE B n e) false)
theorem tokK_0 {B : Nat → Nat} {n e : Nat} {lr : Bool} (h : skp B n e = n) : tokK B n e lr = 0 ∧ tokE B n e = n := by
  unfold tokK tokE
  rw [if_pos h, if_pos h]
  exact ⟨rfl, rfl⟩
theorem tokK_1 {B : Nat → Nat} {n e : Nat} {lr : Bool} (h : skp B n e ≠ n) (hk : kd (B (skp B n e)) = 1) : tokK B n e lr = (if gl B n e lr then 4 else 1) ∧ tokE B n e = run B n 1 (skp B n e) := by
  unfold tokK tokE
  rw [if_neg h, if_neg h, if_pos hk, if_pos hk]
  exact ⟨rfl, rfl⟩
theorem tokK_2 {B : Nat → Nat} {n e : Nat} {lr : Bool} (h : skp B n e ≠ n) (hk : kd (B (skp B n e)) = 2) : tokK B n e lr = (if gl B n e lr then 4 else if 3 < run B n 2 (skp B n e) - skp B n e then 4 else 2) ∧ tokE B n e = run B n 2 (skp B n e) := by
  unfold tokK tokE
  have n1 : ¬ kd (B (skp B n e)) = 1 := by omega
  rw [if_neg h, if_neg h, if_neg n1, if_neg n1, if_pos hk, if_pos hk]
  exact ⟨rfl, rfl⟩
theorem tokK_3 {B : Nat → Nat} {n e : Nat} {lr : Bool} (h : skp B n e ≠ n) (hk : kd (B (skp B n e)) ≠ 1) (hk2 : kd (B (skp B n e)) ≠ 2) : tokK B n e lr = kd (B (skp B n e)) ∧ tokE B n e = skp B n e + 1 := by
  unfold tokK tokE
  rw [if_neg h, if_neg h, if_neg hk, if_neg hk, if_neg hk2, if_neg hk2]
  exact ⟨rfl, rfl⟩
section TOK
variable {RO : List mE} {d n : Nat} {GG : List sh} {M : mM} {Q : mQ} {B : Nat → Nat}
theorem c_tok {e : Nat} {lr : Bool} (hG0 : pw GG) (hP : PC M n B) (hC : CR M n e lr) (hQ : ∀ M', TokC M M' B n e lr → Q (.inl none) GG M' 0 0) : EvP RO (d + 3) 12 [.ref 1] GG M Q := by
  obtain ⟨c9, r9, rfl⟩ := hG0
  have hG : pw (gX c9 r9) := pw_X
  have hn := hP.1
  obtain ⟨c1, c2, c3, c4⟩ := hC
  obtain ⟨s1, s2⟩ := skp_le (B := B) c2
  have hgl : ∀ x : Int32, x = M 1 8 → (Int32.ofNat (skp B n e) = x → gl B n e lr = true) ∧ (¬ Int32.ofNat (skp B n e) = x → gl B n e lr = false) := by
    intro x hx
    rw [hx]
    cases lr with
    | true =>
      rw [c3 rfl]
      refine ⟨fun h => ?_, fun h => ?_⟩
      · have := i_inj (by omega) (by omega) h
        rw [gl, this, Nat.beq_refl]; rfl
      · rw [gl, nbf (fun h9 => h (by rw [h9]))]; rfl
    | false =>
      refine ⟨fun h => ?_, fun _ => rfl⟩
      rcases c4 rfl with h8 | ⟨r, h7, h8⟩
      · rw [h8] at h
        exact absurd h (i_ne_m1 (by omega))
      · rw [h8] at h
        have := i_inj (by omega) (by omega) h
        omega
  -- the end: the run is read
  have p93 : ∀ k M5, (k = 1 ∨ k = 2) → skp B n e ≠ n → kd (B (skp B n e)) = k → FrT M M5 → M5 1 4 = Int32.ofNat (run B n k (skp B n e)) → M5 1 5 = Int32.ofNat (skp B n e) → M5 1 6 = Int32.ofNat k → (M5 1 7 = if k = 2 then nmV B (skp B n e) (run B n k (skp B n e) - skp B n e) else 0) → M5 1 8 = Int32.ofNat (run B n k (skp B n e)) → GoP RO (d + 2) 12 [.ref 1, .int (zb (gl B n e lr))] [] (gX c9 r9) M5 93 0 0 Q := by
    intro k M5 hk hne hkd f5 h4 h5 h6 h7 h8
    obtain ⟨r1, r2⟩ := run_le (B := B) (k := k) s2
    have bad : tokK B n e lr = 4 → Q (.inl none) (gX c9 r9) (upM M5 1 (upd (M5 1) 6 4)) 0 0 := fun h9 => by
      refine hQ _ ⟨f5.trans (FrT.up (fun j hj => upd_ne (by omega))), by rw [upM_at, upd_ne (by decide)]; exact h5, by rw [upM_at, upd_at, h9]; rfl, fun h => absurd h (by omega), fun h => absurd h (by omega), fun h => absurd h (by omega), fun h => absurd h (by omega)⟩
    have good : tokK B n e lr = k → tokE B n e = run B n k (skp B n e) → Q (.inl none) (gX c9 r9) M5 0 0 := fun h9 h10 => by
      refine hQ _ ⟨f5, h5, by rw [h9]; exact h6, fun _ => by rw [h10]; exact h4, fun h => ?_, fun _ => ⟨by rw [h10]; exact h4, by rw [h10]; exact r2, fun _ => by rw [h10]; exact h8, fun h => by cases h⟩, fun h => absurd h (by omega)⟩
      rw [h10, h7, if_pos (h9.symm.trans h)]
    refine wp_sound [] 60 _ _ _ _ _ _ _ ?_
    refine zb_if (fun h0 => ?_) (fun h0 => ?_)
    · refine eq_if (b := 2) h6 rfl (by omega) (by omega) (fun hk2 => ?_) (fun hk2 => ?_)
      · subst hk2
        obtain ⟨t1, t2⟩ := tokK_2 (lr := lr) hne hkd
        rw [h0] at t1
        have t1 : tokK B n e lr = if 3 < run B n 2 (skp B n e) - skp B n e then 4 else 2 := t1
        refine gt_if (a := run B n 2 (skp B n e) - skp B n e) (b := 3) (by rw [h4, h5, i_sub r1]) rfl (by omega) (by omega) (fun h3 => ?_) (fun h3 => ?_)
        · rw [if_pos h3] at t1
          exact bad t1
        · rw [if_neg (by omega)] at t1
          exact good t1 t2
      · have hk1 : k = 1 := by omega
        subst hk1
        obtain ⟨t1, t2⟩ := tokK_1 (lr := lr) hne hkd
        rw [h0] at t1
        exact good t1 t2
    · refine bad ?_
      rcases hk with rfl | rfl
      · rw [(tokK_1 (lr := lr) hne hkd).1, h0]; rfl
      · rw [(tokK_2 (lr := lr) hne hkd).1, h0]; rfl
  have p81 : ∀ k M3, (k = 1 ∨ k = 2) → skp B n e ≠ n → kd (B (skp B n e)) = k → FrT M M3 → M3 1 4 = Int32.ofNat (skp B n e) → M3 1 5 = Int32.ofNat (skp B n e) → M3 1 6 = Int32.ofNat k → GoP RO (d + 2) 12 [.ref 1, .int (zb (gl B n e lr))] [] (gX c9 r9) M3 81 0 0 Q := by
    intro k M3 hk hne hkd f3 h4 h5 h6
    refine wp_sound [93] 60 _ _ _ _ _ _ _ ?_
    refine (c_pass (k := k) hG (f3.P hP) s2 h4 h6 hk).use ?_
    refine p93 k _ hk hne hkd ((f3.trans (FrT.up (f := upd (upd (M3 1) 7 (if k = 2 then nmV B (skp B n e) (run B n k (skp B n e) - skp B n e) else 0)) 4 (Int32.ofNat (run B n k (skp B n e)))) (fun j hj => by rw [upd_ne (by omega), upd_ne (by omega)]))).trans (FrT.up (fun j hj => upd_ne (by omega)))) ?_ ?_ ?_ ?_ ?_
    · rw [upM_at, upd_ne (by decide), upM_at, upd_at]
    · rw [upM_at, upd_ne (by decide), upM_at, upd_ne (by decide), upd_ne (by decide)]; exact h5
    · rw [upM_at, upd_ne (by decide), upM_at, upd_ne (by decide), upd_ne (by decide)]; exact h6
    · rw [upM_at, upd_ne (by decide), upM_at, upd_ne (by decide), upd_at]
    · rw [upM_at, upd_at, upM_at, upd_at]
  have p27 : ∀ M3, FrT M M3 → M3 1 4 = Int32.ofNat (skp B n e) → M3 1 5 = Int32.ofNat (skp B n e) → M3 1 8 = M 1 8 → M3 1 6 = Int32.ofNat (kA n B (skp B n e)) → GoP RO (d + 2) 12 [.ref 1, .retAddr 0] [] (gX c9 r9) M3 27 0 0 Q := by
    intro M3 f3 h4 h5 h8 h6
    have hkA : kA n B (skp B n e) = if skp B n e < n then kd (B (skp B n e)) else 0 := rfl
    have hkd := kd_lt (b := B (skp B n e))
    have hsm : kA n B (skp B n e) < 5 := by
      rw [hkA]
      split
      · omega
      · omega
    refine wp_sound [81] 60 _ _ _ _ _ _ _ ?_
    refine eq_if (b := 3) h6 rfl (by omega) (by omega) (fun h3 => ?_) (fun h3 => ?_)
    · have hne : skp B n e < n := by
        by_cases h : skp B n e < n
        · exact h
        · rw [hkA, if_neg h] at h3
          omega
      rw [hkA, if_pos hne] at h3
      obtain ⟨t1, t2⟩ := tokK_3 (lr := lr) (by omega : skp B n e ≠ n) (by omega) (by omega)
      rw [h3] at t1
      refine hQ _ ⟨f3.trans (FrT.up (fun j hj => upd_ne (by omega))), by rw [upM_at, upd_ne (by decide)]; exact h5, ?_, fun h => absurd h (by omega), fun h => absurd h (by omega), fun h => absurd h (by omega), fun _ => ⟨by rw [upM_at, upd_at, h4, t2, i_inc], by omega, fun h => (by cases h), fun _ => ?_⟩⟩
      · rw [upM_at, upd_ne (by decide), t1, h6, hkA, if_pos hne, h3]
      · rw [upM_at, upd_ne (by decide), h8]
        cases lr with
        | true => exact Or.inr ⟨e, by omega, c3 rfl⟩
        | false =>
          rcases c4 rfl with h9 | ⟨r, h7, h9⟩
          · exact Or.inl h9
          · exact Or.inr ⟨r, by omega, h9⟩
    have two : ∀ k, (k = 1 ∨ k = 2) → kA n B (skp B n e) = k → (M3 1 5 = M3 1 8 → GoP RO (d + 2) 12 [.ref 1, .int 1] [] (gX c9 r9) M3 81 0 0 Q) ∧ (¬ M3 1 5 = M3 1 8 → GoP RO (d + 2) 12 [.ref 1, .int 0] [] (gX c9 r9) M3 81 0 0 Q) := by
      intro k hk hkk
      have hne : skp B n e < n := by
        by_cases h : skp B n e < n
        · exact h
        · rw [hkA, if_neg h] at hkk
          omega
      have hk2 : kd (B (skp B n e)) = k := by
        rw [hkA, if_pos hne] at hkk
        exact hkk
      have h9 := p81 k M3 hk (by omega) hk2 f3 h4 h5 (by rw [h6, hkk])
      obtain ⟨g1, g2⟩ := hgl _ h8
      rw [h5]
      refine ⟨fun h => ?_, fun h => ?_⟩
      · rw [g1 h] at h9; exact h9
      · rw [g2 h] at h9; exact h9
    refine eq_if (b := 1) h6 rfl (by omega) (by omega) (fun h1 => ?_) (fun h1 => ?_)
    · obtain ⟨g1, g2⟩ := two 1 (Or.inl rfl) h1
      exact ⟨g1, g2⟩
    · refine eq_if (b := 2) h6 rfl (by omega) (by omega) (fun h2 => ?_) (fun h2 => ?_)
      · obtain ⟨g1, g2⟩ := two 2 (Or.inr rfl) h2
        exact ⟨g1, g2⟩
      · by_cases hne : skp B n e < n
        · rw [hkA, if_pos hne] at h1 h2 h3
          obtain ⟨t1, t2⟩ := tokK_3 (lr := lr) (by omega : skp B n e ≠ n) h1 h2
          have t4 : tokK B n e lr = 4 := by omega
          refine hQ _ ⟨f3, h5, ?_, fun h => absurd h (by omega), fun h => absurd h (by omega), fun h => absurd h (by omega), fun h => absurd h (by omega)⟩
          rw [h6, hkA, if_pos hne, t1]
        · obtain ⟨t1, t2⟩ := tokK_0 (lr := lr) (by omega : skp B n e = n)
          refine hQ _ ⟨f3, h5, ?_, fun _ => ?_, fun h => absurd h (by omega), fun h => absurd h (by omega), fun h => absurd h (by omega)⟩
          · rw [h6, hkA, if_neg hne, t1]
          · rw [h4, t2, show skp B n e = n by omega]
  have p12 : ∀ M2, FrT M M2 → M2 1 4 = Int32.ofNat (skp B n e) → M2 1 5 = Int32.ofNat (skp B n e) → M2 1 8 = M 1 8 → GoP RO (d + 2) 12 [.ref 1, .retAddr 0] [] (gX c9 r9) M2 12 0 0 Q := by
    intro M2 f2 h4 h5 h8
    have hb : ∀ d, EvR RO (d + 1) 5 [.ref 1, .int (M2 1 4)] (gX c9 r9) M2 (some (.int (bA n B (skp B n e)))) M2 := fun d => by
      rw [h4]
      exact c_byteAt hG (f2.P hP) (by omega)
    have hso := fun d => c_sortA (RO := RO) (d := d) (GG := gX c9 r9) (j := skp B n e) (f2.P hP)
    refine wp_sound [27] 60 _ _ _ _ _ _ _ ?_
    refine (hb _).use ?_
    refine (hso _).use ?_
    refine p27 _ (f2.trans (FrT.up (fun j hj => upd_ne (by omega)))) ?_ ?_ ?_ ?_
    · rw [upM_at, upd_ne (by decide)]; exact h4
    · rw [upM_at, upd_ne (by decide)]; exact h5
    · rw [upM_at, upd_ne (by decide)]; exact h8
    · rw [upM_at, upd_at]
  refine EvP.wp [12] 60 rfl ?_
  refine (c_skip hG hP c2 c1).use ?_
  refine p12 _ ((FrT.up (f := upd (M 1) 4 (Int32.ofNat (skp B n e))) (fun j hj => upd_ne (by omega))).trans (FrT.up (fun j hj => upd_ne (by omega)))) ?_ ?_ ?_
  · rw [upM_at, upd_ne (by decide), upM_at, upd_at]
  · rw [upM_at, upd_at, upM_at, upd_at]
  · rw [upM_at, upd_ne (by decide), upM_at, upd_ne (by decide)]
end TOK
