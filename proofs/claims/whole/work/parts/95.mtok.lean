/-! the reference's tokens: one token ahead -/
def sgB (b : Nat) : Int32 := if b < 128 then Int32.ofNat b else Int32.ofNat b - 256
theorem ltab : ∀ b, b < 256 → Nat.beq (kd b) 1 = (!decide (sgB b < 97) && !decide (122 < sgB b)) ∧ Nat.beq (kd b) 2 = (!decide (sgB b < 48) && !decide (57 < sgB b)) ∧ decide (sgB b = 32) = Nat.beq b 32 ∧ decide (sgB b = 10) = Nat.beq b 10 ∧ decide (sgB b = 59) = Nat.beq (kd b) 3 := by decide +kernel
def PM (M : mM) (n : Nat) (B : Nat → Nat) : Prop := n ≤ 700 ∧ M 145 18 = Int32.ofNat n ∧ ∀ j, j < n → M 155 j = sgB (B j) ∧ B j < 256
/-- only the reference's reading has moved -/
def FrN (M M' : mM) : Prop := (∀ q, q ≠ 145 → M' q = M q) ∧ ∀ j, j < 19 ∨ 22 < j → M' 145 j = M 145 j
theorem FrN.refl {M : mM} : FrN M M := ⟨fun _ _ => rfl, fun _ _ => rfl⟩
theorem FrN.trans {M M' M'' : mM} (h : FrN M M') (h' : FrN M' M'') : FrN M M'' := ⟨fun q a => (h'.1 q a).trans (h.1 q a), fun j a => (h'.2 j a).trans (h.2 j a)⟩
theorem FrN.up {M : mM} {f : Nat → Int32} (h : ∀ j, j < 19 ∨ 22 < j → f j = M 145 j) : FrN M (upM M 145 f) := ⟨fun q a => upM_ne a, fun j a => by rw [upM_at]; exact h j a⟩
theorem FrN.P {M M' : mM} {n : Nat} {B : Nat → Nat} (h : FrN M M') (hP : PM M n B) : PM M' n B := ⟨hP.1, by rw [h.2 18 (by omega)]; exact hP.2.1, fun j hj => by rw [h.1 155 (by decide)]; exact hP.2.2 j hj⟩
/-- the token behind e is the one ahead -/
def MT (M : mM) (B : Nat → Nat) (n e : Nat) (lr : Bool) : Prop := M 145 20 = Int32.ofNat (skp B n e) ∧ M 145 21 = Int32.ofNat (tokE B n e) ∧ M 145 19 = Int32.ofNat (tokK B n e lr) ∧ (tokK B n e lr = 2 → M 145 22 = nmV B (skp B n e) (tokE B n e - skp B n e))
theorem tokK_lt {B : Nat → Nat} {n e : Nat} {lr : Bool} : tokK B n e lr < 5 := by
  have hk := kd_lt (b := B (skp B n e))
  unfold tokK
  repeat' split
  all_goals omega
section MTOK
variable {RO : List mE} {d n sb : Nat} {G ext : List sh} {M : mM} {Q : mQ} {B : Nat → Nat}
theorem e_isLetter {b : Nat} (hb : b < 256) : EvR RO (d + 1) 168 [.int (sgB b)] G M (some (.int (zb (Nat.beq (kd b) 1)))) M := by
  have ht := (ltab b hb).1
  refine EvR.of (fun Q hQ => ?_)
  rw [ht] at hQ
  refine EvP.wp [] 60 rfl ?_
  refine ⟨fun h1 => ?_, fun h1 => ?_⟩
  · rw [decide_eq_true h1] at hQ; exact ⟨by decide +kernel, hQ⟩
  · rw [decide_eq_false h1] at hQ
    refine ⟨fun h2 => ?_, fun h2 => ?_⟩
    · rw [decide_eq_true h2] at hQ; exact ⟨by decide +kernel, hQ⟩
    · rw [decide_eq_false h2] at hQ; exact ⟨by decide +kernel, hQ⟩
theorem e_isDigit {b : Nat} (hb : b < 256) : EvR RO (d + 1) 166 [.int (sgB b)] G M (some (.int (zb (Nat.beq (kd b) 2)))) M := by
  have ht := (ltab b hb).2.1
  refine EvR.of (fun Q hQ => ?_)
  rw [ht] at hQ
  refine EvP.wp [] 60 rfl ?_
  refine ⟨fun h1 => ?_, fun h1 => ?_⟩
  · rw [decide_eq_true h1] at hQ; exact ⟨by decide +kernel, hQ⟩
  · rw [decide_eq_false h1] at hQ
    refine ⟨fun h2 => ?_, fun h2 => ?_⟩
    · rw [decide_eq_true h2] at hQ; exact ⟨by decide +kernel, hQ⟩
    · rw [decide_eq_false h2] at hQ; exact ⟨by decide +kernel, hQ⟩
/-- a run's number: what the reference keeps of it -/
def nmM (B : Nat → Nat) (s : Nat) : Nat → Int32
  | 0 => 0
  | i + 1 => if i < 3 then 10 * nmM B s i + sgB (B (s + i)) - 48 else nmM B s i
theorem nmM_eq {B : Nat → Nat} {s : Nat} : ∀ i, i ≤ 3 → (∀ j, j < i → B (s + j) < 128) → nmM B s i = nmV B s i := by
  intro i
  induction i with
  | zero => intro _ _; rfl
  | succ i ih =>
    intro h1 h2
    rw [nmM, nmV, if_pos (by omega), ih (by omega) (fun j hj => h2 j (by omega)), sgB, if_pos (h2 i (by omega)), Int32.mul_comm]
theorem e_next {e k : Nat} (hP : PM M n B) (he : e ≤ n) (hk : k < 5) (h21 : M 145 21 = Int32.ofNat e) (h19 : M 145 19 = Int32.ofNat k) (hQ : ∀ M', FrN M M' → MT M' B n e (Nat.beq k 1 || Nat.beq k 2) → Q (.inl none) (gW sb ext) M' 0 0) : EvP RO (d + 2) 188 [.ref 145] (gW sb ext) M Q := by
  have hn := hP.1
  obtain ⟨s1, s2⟩ := skp_le (B := B) he
  have key : ∀ (v1 v2 : Value), v1 = .int (zb (Nat.beq k 1 || Nat.beq k 2)) → GoP RO (d + 1) 188 [.ref 145, v1, v2] [] (gW sb ext) M 22 0 0 Q := by
    rintro v1 v2 rfl
    generalize hlr : (Nat.beq k 1 || Nat.beq k 2) = lr at *
    have hgl : gl B n e lr = (lr && Nat.beq (skp B n e) e) := rfl
    -- the number's run
    have pnum : skp B n e < n → kd (B (skp B n e)) = 2 → ∀ M3, FrN M M3 → M3 145 20 = Int32.ofNat (skp B n e) → ∀ i, run B n 2 (skp B n e) - (skp B n e + i) < 1000 → skp B n e + i ≤ run B n 2 (skp B n e) → M3 145 21 = Int32.ofNat (skp B n e + i) → M3 145 22 = nmM B (skp B n e) i → GoP RO (d + 1) 188 [.ref 145, .int (zb lr), .int (zb (gl B n e lr))] [] (gW sb ext) M3 220 0 0 Q := by
      intro hlt hkd M3 f3 h20 i
      obtain ⟨g1, g2, g3, g4⟩ := rt_ge (P := fun j => Nat.beq (kd (B j)) 2) (n := n) (n - skp B n e) (skp B n e) rfl
      have g2 := g2 s2
      have hrun : rt (fun j => Nat.beq (kd (B j)) 2) n (skp B n e) = run B n 2 (skp B n e) := rfl
      rw [hrun] at g1 g2 g3 g4
      generalize hfu : run B n 2 (skp B n e) - (skp B n e + i) = fu
      induction fu generalizing i M3 with
      | zero =>
        intro _ hle h21 h22
        have hi : skp B n e + i = run B n 2 (skp B n e) := by omega
        obtain ⟨t1, t2⟩ := tokK_2 (lr := lr) (by omega : skp B n e ≠ n) hkd
        have fin : ∀ x, x = Int32.ofNat (tokK B n e lr) → Q (.inl none) (gW sb ext) (upM M3 145 (upd (M3 145) 19 x)) 0 0 := fun x hx => by
          refine hQ _ (f3.trans (FrN.up (fun j hj => upd_ne (by omega)))) ⟨?_, ?_, ?_, fun h2 => ?_⟩
          · rw [upM_at, upd_ne (by decide)]; exact h20
          · rw [upM_at, upd_ne (by decide), h21, t2, hi]
          · rw [upM_at, upd_at, hx]
          · rw [upM_at, upd_ne (by decide), h22, t2]
            have h3 : ¬ 3 < run B n 2 (skp B n e) - skp B n e := fun h => by
              rw [h2, if_pos h] at t1
              split at t1 <;> omega
            rw [show run B n 2 (skp B n e) - skp B n e = i by omega]
            refine nmM_eq i (by omega) (fun j hj => ?_)
            have h9 := Nat.eq_of_beq_eq_true (g3 (skp B n e + j) (by omega) (by omega))
            unfold kd at h9
            split at h9
            · omega
            · split at h9
              · omega
              · split at h9 <;> omega
        have stop : GoP RO (d + 1) 188 [.ref 145, .int (zb lr), .int (zb (gl B n e lr))] [] (gW sb ext) M3 296 0 0 Q := by
          refine wp_sound [] 60 _ _ _ _ _ _ _ ?_
          refine zb_if (fun h0 => ?_) (fun h0 => ?_)
          · refine gt_if (a := i) (b := 3) (by rw [h21, h20, i_sub (by omega), show skp B n e + i - skp B n e = i by omega]) rfl (by omega) (by omega) (fun h3 => ?_) (fun h3 => ?_)
            · exact fin 4 (by rw [t1, h0, if_pos (by omega : 3 < run B n 2 (skp B n e) - skp B n e)]; rfl)
            · exact fin 2 (by rw [t1, h0, if_neg (by omega : ¬ 3 < run B n 2 (skp B n e) - skp B n e)]; rfl)
          · exact fin 4 (by rw [t1, h0]; rfl)
        have hPM := f3.P hP
        refine wp_sound [296] 60 _ _ _ _ _ _ _ ?_
        refine lt_if h21 hPM.2.1 (by omega) (by omega) (fun h => ?_) (fun _ => stop)
        have hb := hPM.2.2 (skp B n e + i) h
        have hno := g4 (by omega)
        refine ⟨skp B n e + i, h21, by omega, ?_⟩
        rw [hb.1]
        refine (e_isDigit hb.2).use ?_
        refine zb_if (fun _ => stop) (fun h0 => ?_)
        rw [hi] at h0
        exact absurd (h0.symm.trans hno) (by decide)
      | succ fu ih =>
        intro hlt2 hle h21 h22
        have hin : skp B n e + i < run B n 2 (skp B n e) := by omega
        have hPM := f3.P hP
        have hb := hPM.2.2 (skp B n e + i) (by omega)
        have hyes := g3 (skp B n e + i) (by omega) hin
        have go : ∀ M4, FrN M3 M4 → M4 145 20 = M3 145 20 → M4 145 21 = M3 145 21 → M4 145 22 = nmM B (skp B n e) (i + 1) → GoP RO (d + 1) 188 [.ref 145, .int (zb lr), .int (zb (gl B n e lr))] [] (gW sb ext) (upM M4 145 (upd (M4 145) 21 (M4 145 21 + 1))) 220 0 0 Q := fun M4 f4 k20 k21 k22 => by
          refine ih (M3 := upM M4 145 (upd (M4 145) 21 (M4 145 21 + 1))) ((f3.trans f4).trans (FrN.up (fun j hj => upd_ne (by omega)))) (by rw [upM_at, upd_ne (by decide), k20, h20]) (i + 1) (by omega) (by omega) (by omega) (by rw [upM_at, upd_at, k21, h21, i_inc]; rfl) (by rw [upM_at, upd_ne (by decide), k22])
        have hPI : M3 145 21 - M3 145 20 = Int32.ofNat i := by rw [h21, h20, i_sub (by omega), show skp B n e + i - skp B n e = i by omega]
        refine wp_sound [220] 60 _ _ _ _ _ _ _ ?_
        refine lt_if h21 hPM.2.1 (by omega) (by omega) (fun _ => ?_) (fun h => absurd h (by omega))
        refine ⟨skp B n e + i, h21, by omega, ?_⟩
        rw [hb.1]
        refine (e_isDigit hb.2).use ?_
        refine zb_if (fun h0 => absurd (h0.symm.trans hyes) (by decide)) (fun _ => ?_)
        refine lt_if (a := i) (b := 3) hPI rfl (by omega) (by omega) (fun h3 => ?_) (fun h3 => ?_)
        · refine ⟨skp B n e + i, h21, by omega, ?_⟩
          rw [hb.1]
          refine go (upM M3 145 (upd (M3 145) 22 (10 * M3 145 22 + sgB (B (skp B n e + i)) - 48))) (FrN.up (fun j hj => upd_ne (by omega))) (by rw [upM_at, upd_ne (by decide)]) (by rw [upM_at, upd_ne (by decide)]) ?_
          rw [upM_at, upd_at, h22, nmM, if_pos h3]
        · exact go M3 FrN.refl rfl rfl (by rw [h22, nmM, if_neg (by omega)])
    -- the word's run
    have pword : skp B n e < n → kd (B (skp B n e)) = 1 → ∀ M3, FrN M M3 → M3 145 20 = Int32.ofNat (skp B n e) → ∀ i, skp B n e + i ≤ run B n 1 (skp B n e) → M3 145 21 = Int32.ofNat (skp B n e + i) → GoP RO (d + 1) 188 [.ref 145, .int (zb lr), .int (zb (gl B n e lr))] [] (gW sb ext) M3 145 0 0 Q := by
      intro hlt hkd M3 f3 h20 i
      obtain ⟨g1, g2, g3, g4⟩ := rt_ge (P := fun j => Nat.beq (kd (B j)) 1) (n := n) (n - skp B n e) (skp B n e) rfl
      have g2 := g2 s2
      have hrun : rt (fun j => Nat.beq (kd (B j)) 1) n (skp B n e) = run B n 1 (skp B n e) := rfl
      rw [hrun] at g1 g2 g3 g4
      generalize hfu : run B n 1 (skp B n e) - (skp B n e + i) = fu
      induction fu generalizing i M3 with
      | zero =>
        intro hle h21
        have hi : skp B n e + i = run B n 1 (skp B n e) := by omega
        obtain ⟨t1, t2⟩ := tokK_1 (lr := lr) (by omega : skp B n e ≠ n) hkd
        have fin : ∀ x, x = Int32.ofNat (tokK B n e lr) → Q (.inl none) (gW sb ext) (upM M3 145 (upd (M3 145) 19 x)) 0 0 := fun x hx => by
          refine hQ _ (f3.trans (FrN.up (fun j hj => upd_ne (by omega)))) ⟨?_, ?_, ?_, fun h2 => ?_⟩
          · rw [upM_at, upd_ne (by decide)]; exact h20
          · rw [upM_at, upd_ne (by decide), h21, t2, hi]
          · rw [upM_at, upd_at, hx]
          · rw [h2] at t1
            split at t1 <;> omega
        have stop : GoP RO (d + 1) 188 [.ref 145, .int (zb lr), .int (zb (gl B n e lr))] [] (gW sb ext) M3 184 0 0 Q := by
          refine wp_sound [] 60 _ _ _ _ _ _ _ ?_
          refine zb_if (fun h0 => ?_) (fun h0 => ?_)
          · exact fin 1 (by rw [t1, h0]; rfl)
          · exact fin 4 (by rw [t1, h0]; rfl)
        have hPM := f3.P hP
        refine wp_sound [184] 60 _ _ _ _ _ _ _ ?_
        refine lt_if h21 hPM.2.1 (by omega) (by omega) (fun h => ?_) (fun _ => stop)
        have hb := hPM.2.2 (skp B n e + i) h
        have hno := g4 (by omega)
        refine ⟨skp B n e + i, h21, by omega, ?_⟩
        rw [hb.1]
        refine (e_isLetter hb.2).use ?_
        refine zb_if (fun _ => stop) (fun h0 => ?_)
        rw [hi] at h0
        exact absurd (h0.symm.trans hno) (by decide)
      | succ fu ih =>
        intro hle h21
        have hin : skp B n e + i < run B n 1 (skp B n e) := by omega
        have hPM := f3.P hP
        have hb := hPM.2.2 (skp B n e + i) (by omega)
        have hyes := g3 (skp B n e + i) (by omega) hin
        have go := ih (M3 := upM M3 145 (upd (M3 145) 21 (M3 145 21 + 1))) (f3.trans (FrN.up (fun j hj => upd_ne (by omega)))) (by rw [upM_at, upd_ne (by decide), h20]) (i + 1) (by omega) (by omega) (by rw [upM_at, upd_at, h21, i_inc]; rfl)
        refine wp_sound [145] 60 _ _ _ _ _ _ _ ?_
        refine lt_if h21 hPM.2.1 (by omega) (by omega) (fun _ => ?_) (fun h => absurd h (by omega))
        refine ⟨skp B n e + i, h21, by omega, ?_⟩
        rw [hb.1]
        refine (e_isLetter hb.2).use ?_
        refine zb_if (fun h0 => absurd (h0.symm.trans hyes) (by decide)) (fun _ => ?_)
        exact go
    -- the token's kind
    have p103 : ∀ M3, FrN M M3 → M3 145 20 = Int32.ofNat (skp B n e) → GoP RO (d + 1) 188 [.ref 145, .int (zb lr), .int (zb (gl B n e lr))] [] (gW sb ext) M3 103 0 0 Q := by
      intro M3 f3 h20
      have hPM := f3.P hP
      have f4 : FrN M (upM M3 145 (upd (M3 145) 21 (M3 145 20))) := f3.trans (FrN.up (fun j hj => upd_ne (by omega)))
      have k20 : upM M3 145 (upd (M3 145) 21 (M3 145 20)) 145 20 = Int32.ofNat (skp B n e) := by rw [upM_at, upd_ne (by decide), h20]
      have k21 : upM M3 145 (upd (M3 145) 21 (M3 145 20)) 145 21 = Int32.ofNat (skp B n e) := by rw [upM_at, upd_at, h20]
      refine wp_sound [111] 60 _ _ _ _ _ _ _ ?_
      show GoP RO (d + 1) 188 _ [] (gW sb ext) (upM M3 145 (upd (M3 145) 21 (M3 145 20))) 111 0 0 Q
      generalize upM M3 145 (upd (M3 145) 21 (M3 145 20)) = M4 at *
      have hPM := f4.P hP
      refine wp_sound [145, 220] 60 _ _ _ _ _ _ _ ?_
      refine eq_if k20 hPM.2.1 (by omega) (by omega) (fun he => ?_) (fun he => ?_)
      · obtain ⟨t1, t2⟩ := tokK_0 (lr := lr) he
        refine hQ _ (f4.trans (FrN.up (fun j hj => upd_ne (by omega)))) ⟨by rw [upM_at, upd_ne (by decide)]; exact k20, by rw [upM_at, upd_ne (by decide), k21, t2, he], by rw [upM_at, upd_at, t1]; rfl, fun h2 => by omega⟩
      have hb := hPM.2.2 (skp B n e) (by omega)
      have hl := ltab _ hb.2
      refine ⟨skp B n e, k20, by omega, ?_⟩
      rw [hb.1]
      refine (e_isLetter hb.2).use ?_
      refine zb_if (fun h1 => ?_) (fun h1 => ?_)
      rotate_left
      · exact pword (by omega) (Nat.eq_of_beq_eq_true h1) M4 f4 k20 0 (run_le (B := B) (k := 1) s2).1 k21
      refine ⟨skp B n e, k20, by omega, ?_⟩
      rw [hb.1]
      refine (e_isDigit hb.2).use ?_
      refine zb_if (fun h2 => ?_) (fun h2 => ?_)
      rotate_left
      · have hr := run_le (B := B) (k := 2) s2
        refine pnum (by omega) (Nat.eq_of_beq_eq_true h2) (upM M4 145 (upd (M4 145) 22 0)) (f4.trans (FrN.up (fun j hj => upd_ne (by omega)))) (by rw [upM_at, upd_ne (by decide)]; exact k20) 0 (by omega) hr.1 (by rw [upM_at, upd_ne (by decide)]; exact k21) (by rw [upM_at, upd_at]; rfl)
      have n1 : kd (B (skp B n e)) ≠ 1 := fun h => by rw [h] at h1; cases h1
      have n2 : kd (B (skp B n e)) ≠ 2 := fun h => by rw [h] at h2; cases h2
      obtain ⟨t1, t2⟩ := tokK_3 (lr := lr) (by omega : skp B n e ≠ n) n1 n2
      have fin : ∀ x, x = Int32.ofNat (tokK B n e lr) → Q (.inl none) (gW sb ext) (upM (upM M4 145 (upd (M4 145) 21 (M4 145 20 + 1))) 145 (upd (upM M4 145 (upd (M4 145) 21 (M4 145 20 + 1)) 145) 19 x)) 0 0 := fun x hx => by
        refine hQ _ ((f4.trans (FrN.up (f := upd (M4 145) 21 (M4 145 20 + 1)) (fun j hj => upd_ne (by omega)))).trans (FrN.up (fun j hj => upd_ne (by omega)))) ⟨?_, ?_, ?_, fun h2 => by omega⟩
        · rw [upM_at, upd_ne (by decide), upM_at, upd_ne (by decide)]; exact k20
        · rw [upM_at, upd_ne (by decide), upM_at, upd_at, k20, i_inc, t2]
        · rw [upM_at, upd_at, hx]
      have hkl := kd_lt (b := B (skp B n e))
      refine ⟨skp B n e, by rw [upM_at, upd_ne (by decide)]; exact k20, by omega, ?_⟩
      rw [show upM M4 145 (upd (M4 145) 21 (M4 145 20 + 1)) 155 = M4 155 from upM_ne (by decide), hb.1]
      refine ⟨fun h3 => ?_, fun h3 => ?_⟩
      · have : kd (B (skp B n e)) = 3 := Nat.eq_of_beq_eq_true (by rw [← hl.2.2.2.2]; exact decide_eq_true h3)
        exact fin 3 (by rw [t1, this]; rfl)
      · have : kd (B (skp B n e)) ≠ 3 := fun h => by
          have h9 := hl.2.2.2.2
          rw [decide_eq_false h3, h] at h9
          cases h9
        exact fin 4 (by rw [t1, show kd (B (skp B n e)) = 4 by omega]; rfl)
    have p30 : ∀ fu p, n - p = fu → p ≤ n → skp B n p = skp B n e → ∀ M2, FrN M M2 → M2 145 21 = Int32.ofNat e → M2 145 20 = Int32.ofNat p → GoP RO (d + 1) 188 [.ref 145, .int (zb lr), v2] [] (gW sb ext) M2 30 0 0 Q := by
      intro fu
      induction fu with
      | zero =>
        intro p hfu hp hsk M2 f2 h21' h20
        have hpn : p = skp B n e := by rw [← hsk, skp, rt_stop (Or.inl (by omega))]
        have stop : GoP RO (d + 1) 188 [.ref 145, .int (zb lr), v2] [] (gW sb ext) M2 82 0 0 Q := by
          have h9 := p103 M2 f2 (by rw [h20, hpn])
          refine wp_sound [103] 60 _ _ _ _ _ _ _ ?_
          cases lr with
          | false => exact ⟨fun _ => h9, fun h => absurd rfl h⟩
          | true =>
            refine ⟨fun h => absurd h (by decide), fun _ => ?_⟩
            refine eq_if h20 h21' (by omega) (by omega) (fun h => ?_) (fun h => ?_)
            · rw [hgl, ← hpn, h, Nat.beq_refl] at h9; exact h9
            · rw [hgl, ← hpn, nbf h] at h9; exact h9
        refine wp_sound [82] 60 _ _ _ _ _ _ _ ?_
        refine lt_if h20 (f2.P hP).2.1 (by omega) (by omega) (fun h => absurd h (by omega)) (fun _ => stop)
      | succ fu ih =>
        intro p hfu hp hsk M2 f2 h21' h20
        have hb := (f2.P hP).2.2 p (by omega)
        have hl := ltab _ hb.2
        have stop : blk (B p) = false → GoP RO (d + 1) 188 [.ref 145, .int (zb lr), v2] [] (gW sb ext) M2 82 0 0 Q := fun hbl => by
          have hpn : p = skp B n e := by rw [← hsk, skp, rt_stop (P := fun j => blk (B j)) (p := p) (Or.inr hbl)]
          have h9 := p103 M2 f2 (by rw [h20, hpn])
          refine wp_sound [103] 60 _ _ _ _ _ _ _ ?_
          cases lr with
          | false => exact ⟨fun _ => h9, fun h => absurd rfl h⟩
          | true =>
            refine ⟨fun h => absurd h (by decide), fun _ => ?_⟩
            refine eq_if h20 h21' (by omega) (by omega) (fun h => ?_) (fun h => ?_)
            · rw [hgl, ← hpn, h, Nat.beq_refl] at h9; exact h9
            · rw [hgl, ← hpn, nbf h] at h9; exact h9
        have go : blk (B p) = true → GoP RO (d + 1) 188 [.ref 145, .int (zb lr), v2] [] (gW sb ext) (upM M2 145 (upd (M2 145) 20 (M2 145 20 + 1))) 30 0 0 Q := fun hbl => by
          refine ih (p + 1) (by omega) (by omega) (by rw [← hsk, skp, skp, rt_step (p := p) (by omega) hbl]) _ (f2.trans (FrN.up (fun j hj => upd_ne (by omega)))) (by rw [upM_at, upd_ne (by decide)]; exact h21') (by rw [upM_at, upd_at, h20, i_inc])
        refine wp_sound [30, 82] 60 _ _ _ _ _ _ _ ?_
        refine lt_if h20 (f2.P hP).2.1 (by omega) (by omega) (fun _ => ?_) (fun h => absurd h (by omega))
        refine ⟨p, h20, by omega, ?_⟩
        rw [hb.1]
        refine ⟨fun h1 => ?_, fun h1 => ?_⟩
        · exact go (by rw [blk, ← hl.2.2.1, decide_eq_true h1]; rfl)
        · refine ⟨p, h20, by omega, ?_⟩
          rw [hb.1]
          refine ⟨fun h2 => ?_, fun h2 => ?_⟩
          · exact go (by rw [blk, ← hl.2.2.2.1, decide_eq_true h2, Bool.or_true])
          · exact stop (by rw [blk, ← hl.2.2.1, ← hl.2.2.2.1, decide_eq_false h1, decide_eq_false h2]; rfl)
    refine wp_sound [30] 60 _ _ _ _ _ _ _ ?_
    exact p30 (n - e) e rfl he rfl _ (FrN.up (fun j hj => upd_ne (by omega))) (by rw [upM_at, upd_ne (by decide)]; exact h21) (by rw [upM_at, upd_at, h21])
  refine EvP.wp [22] 60 rfl ?_
  refine eq_if (b := 1) h19 rfl (by omega) (by omega) (fun h => ?_) (fun h => ?_)
  · exact key _ _ (by rw [h]; rfl)
  · refine eq_if (b := 2) h19 rfl (by omega) (by omega) (fun h2 => ?_) (fun h2 => ?_)
    · exact key _ _ (by rw [h2]; rfl)
    · exact key _ _ (by rw [nbf h, nbf h2]; rfl)
end MTOK
