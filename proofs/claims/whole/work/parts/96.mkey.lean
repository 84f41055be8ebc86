/-! the reference's words -/
theorem tok_1 {B : Nat → Nat} {n e : Nat} {lr : Bool} (he : e ≤ n) (h : tokK B n e lr = 1) : skp B n e < n ∧ tokE B n e = run B n 1 (skp B n e) ∧ ∀ j, skp B n e ≤ j → j < tokE B n e → kd (B j) = 1 := by
  obtain ⟨s1, s2⟩ := skp_le (B := B) he
  by_cases h0 : skp B n e = n
  · rw [(tokK_0 (lr := lr) h0).1] at h; cases h
  · by_cases h1 : kd (B (skp B n e)) = 1
    · obtain ⟨t1, t2⟩ := tokK_1 (lr := lr) h0 h1
      obtain ⟨g1, g2, g3, g4⟩ := rt_ge (P := fun j => Nat.beq (kd (B j)) 1) (n := n) (n - skp B n e) (skp B n e) rfl
      refine ⟨by omega, t2, fun j a b => ?_⟩
      rw [t2] at b
      exact Nat.eq_of_beq_eq_true (g3 j a b)
    · by_cases h2 : kd (B (skp B n e)) = 2
      · rw [(tokK_2 (lr := lr) h0 h2).1] at h
        split at h
        · cases h
        · split at h <;> cases h
      · rw [(tokK_3 (lr := lr) h0 h1 h2).1] at h
        exact absurd h h1
theorem ktab : ∀ q, q < 15 → (wdL q).length ≤ 5 ∧ 4 ≤ (wdL q).length ∧ ∀ i, i < 5 → keyF (5 * q + i) = Int32.ofNat ((wdL q).getD i 0) ∧ (wdL q).getD i 0 < 128 ∧ (i < (wdL q).length → (wdL q).getD i 0 ≠ 0) ∧ ((wdL q).length ≤ i → (wdL q).getD i 0 = 0) := by decide +kernel
theorem kd1 {b : Nat} (h : kd b = 1) : 97 ≤ b ∧ b ≤ 122 := by
  unfold kd at h
  split at h
  · assumption
  · split at h
    · cases h
    · split at h <;> cases h
section MKEY
variable {RO : List mE} {d n sb : Nat} {G ext : List sh} {M : mM} {Q : mQ} {B : Nat → Nat}
theorem e_isKey {q s p t : Nat} (hq : q < 15) (hP : PM M n B) (hK : I_key M) (h19 : M 145 19 = Int32.ofNat t) (ht : t < 5) (h20 : M 145 20 = Int32.ofNat s) (h21 : M 145 21 = Int32.ofNat p) (sp : s ≤ p) (pn : p ≤ n) (hlet : t = 1 → ∀ j, s ≤ j → j < p → kd (B j) = 1) : EvR RO (d + 1) 167 [.ref 145, .int (Int32.ofNat q)] (gW sb ext) M (some (.int (zb (Nat.beq t 1 && isW B s p q)))) M := by
  have hn := hP.1
  obtain ⟨k1, k2, k3⟩ := ktab q hq
  refine EvR.of (fun Q hQ => ?_)
  have hlen : M 145 21 - M 145 20 = Int32.ofNat (p - s) := by rw [h21, h20, i_sub sp]
  have no : isW B s p q = false → t = 1 → Q (.inl (some (.int 0))) (gW sb ext) M 0 0 := fun h _ => by
    rw [h, Bool.and_false] at hQ; exact hQ
  have yes : isW B s p q = true → t = 1 → Q (.inl (some (.int 1))) (gW sb ext) M 0 0 := fun h h1 => by
    rw [h, h1] at hQ; exact hQ
  have non : ¬ t = 1 → Q (.inl (some (.int 0))) (gW sb ext) M 0 0 := fun h => by
    rw [nbf h] at hQ; exact hQ
  clear hQ
  by_cases t1 : t = 1
  · have hlet := hlet t1
    have loop : p - s ≤ 5 → ∀ v3, GoP RO d 167 [.ref 145, .int (Int32.ofNat q), .int (Int32.ofNat 0), v3] [] (gW sb ext) M 25 0 0 Q := fun h5 => by
      have key := up_ind (S := 5) (H := fun i => ∀ v3, (∀ j, j < i → (if j < p - s then B (s + j) else 0) = (wdL q).getD j 0) → GoP RO d 167 [.ref 145, .int (Int32.ofNat q), .int (Int32.ofNat i), v3] [] (gW sb ext) M 25 0 0 Q) (fun v3 hall => ?_) (fun i hi ih v3 hall => ?_) 0 (by omega)
      · exact fun v3 => key v3 (fun j hj => absurd hj (by omega))
      · refine wp_sound [25] 60 _ _ _ _ _ _ _ ?_
        refine lt_if (b := 5) rfl rfl (by omega) (by omega) (fun h9 => absurd h9 (by omega)) (fun _ => ?_)
        have hL : p - s = (wdL q).length := by
          rcases Nat.lt_trichotomy (p - s) (wdL q).length with h | h | h
          · have h9 := hall (p - s) (by omega)
            rw [if_neg (by omega)] at h9
            exact absurd h9.symm ((k3 (p - s) (by omega)).2.2.1 h)
          · exact h
          · have h9 := hall (wdL q).length (by omega)
            rw [if_pos h, (k3 (wdL q).length (by omega)).2.2.2 (Nat.le_refl _)] at h9
            have := kd1 (hlet (s + (wdL q).length) (by omega) (by omega))
            omega
        refine ⟨by decide +kernel, yes (isW_on hL (fun i hi => ?_)) t1⟩
        have h9 := hall i (by omega)
        rw [if_pos (by omega)] at h9
        exact h9
      · have hkey : M 148 (5 * q + i) = Int32.ofNat ((wdL q).getD i 0) := by rw [hK.1 (5 * q + i) (by omega)]; exact (k3 i hi).1
        have hsm := (k3 i hi).2.1
        have hidx : (5 : Int32) * Int32.ofNat q + Int32.ofNat i = Int32.ofNat (5 * q + i) := by rw [show (5 : Int32) = Int32.ofNat 5 from rfl, i_mul, i_add]
        have cmp : ∀ x : Nat, x < 256 → (if i < p - s then B (s + i) else 0) = x → ∀ v, v = Int32.ofNat x → GoP RO d 167 [.ref 145, .int (Int32.ofNat q), .int (Int32.ofNat i), .int v] [] (gW sb ext) M 59 0 0 Q := fun x hx hxx v hv => by
          subst hv
          refine wp_sound [25] 60 _ _ _ _ _ _ _ ?_
          refine ⟨5 * q + i, hidx, by omega, ?_⟩
          refine eq_if rfl hkey (by omega) (by omega) (fun h => ?_) (fun h => ?_)
          · refine GoP.eq2 (ih _ (fun j hj => ?_)) (by rw [i_inc]) rfl
            by_cases e : j = i
            · rw [e, hxx]; exact h
            · exact hall j (by omega)
          · refine ⟨by decide +kernel, no ?_ t1⟩
            by_cases hL : p - s = (wdL q).length
            · by_cases hiL : i < (wdL q).length
              · rw [if_pos (by omega)] at hxx
                exact isW_off hiL (by rw [hxx]; exact fun h9 => h h9.symm)
              · rw [if_neg (by omega)] at hxx
                exact absurd (hxx.symm.trans ((k3 i hi).2.2.2 (by omega)).symm) h
            · exact isW_len (fun h9 => hL h9.symm)
        refine wp_sound [25, 59] 60 _ _ _ _ _ _ _ ?_
        refine lt_if (b := 5) rfl rfl (by omega) (by omega) (fun _ => ?_) (fun h9 => absurd h9 (by omega))
        refine lt_if (a := i) rfl hlen (by omega) (by omega) (fun h => ?_) (fun h => ?_)
        · have hb := hP.2.2 (s + i) (by omega)
          have h1 := kd1 (hlet (s + i) (by omega) (by omega))
          refine ⟨s + i, by rw [h20, i_add], by omega, ?_⟩
          exact cmp (B (s + i)) hb.2 (if_pos h) _ (by rw [hb.1, sgB, if_pos (by omega)])
        · exact cmp 0 (by omega) (if_neg (by omega)) _ rfl
    refine EvP.wp [25] 60 rfl ?_
    refine eq_if (b := 1) h19 rfl (by omega) (by omega) (fun _ => ?_) (fun h9 => absurd t1 h9)
    refine gt_if (b := 5) hlen rfl (by omega) (by omega) (fun h => ?_) (fun h => ?_)
    · exact ⟨by decide +kernel, no (isW_len (by omega)) t1⟩
    · exact loop h _
  · refine EvP.wp [25] 60 rfl ?_
    refine eq_if (b := 1) h19 rfl (by omega) (by omega) (fun h9 => absurd h9 t1) (fun _ => ?_)
    exact ⟨by decide +kernel, non t1⟩
end MKEY
