/-! the reference's line -/
section MLIN
variable {RO : List mE} {d n sb : Nat} {ext : List sh} {M : mM} {Q : mQ} {B : Nat → Nat} {N : Nat → Int32} {m S t : Nat}
/-- a line, its first token ahead -/
def LM0 (M : mM) (n : Nat) (B : Nat → Nat) (N : Nat → Int32) (m S t e : Nat) : Prop := PM M n B ∧ I_key M ∧ e ≤ n ∧ MT M B n e false ∧ M 145 23 = 0 ∧ M 149 = N ∧ rOk N m S t
theorem e_pline {e : Nat} (hL : LM0 M n B N m S t e) (hQ : LQM Q (gW sb ext) M n B (pLine B n e N m S t)) : EvP RO (d + 10) 197 [.ref 145] (gW sb ext) M Q := by
  obtain ⟨hP, hK, he, hT, h0, hN, hR⟩ := hL
  have hk := fun (q : Nat) (hq : q < 15) d => e_key (RO := RO) (d := d) (sb := sb) (ext := ext) hq hP hK he hT
  have hl : tokK B n e false = 1 → LM M n B N m S t e := fun h => ⟨hP, hK, he, hT, h, h0, hN, hR⟩
  have on : ∀ q, (Nat.beq (tokK B n e false) 1 && isW B (skp B n e) (tokE B n e) q) = true → tokK B n e false = 1 ∧ isW B (skp B n e) (tokE B n e) q = true := fun q h => by
    rw [Bool.and_eq_true] at h
    exact ⟨Nat.eq_of_beq_eq_true h.1, h.2⟩
  have off : ∀ q q', q < 15 → q' < 15 → q ≠ q' → isW B (skp B n e) (tokE B n e) q = true → ¬ isW B (skp B n e) (tokE B n e) q' = true := fun q q' a b c h h' => c (isW_one a b h h')
  have pr : tokK B n e false = 1 → ∀ q, (Nat.beq (tokK B n e false) 1 && isW B (skp B n e) (tokE B n e) q) = false → ¬ isW B (skp B n e) (tokE B n e) q = true := fun hk q h h9 => by
    rw [hk, h9] at h
    cases h
  refine EvP.wp [2] 60 rfl ?_
  have stage : ∀ i, i < 3 → ∀ d, EvR RO (d + 1) 167 [.ref 145, .int (3 + Int32.ofNat i)] (gW sb ext) M (some (.int (zb (Nat.beq (tokK B n e false) 1 && isW B (skp B n e) (tokE B n e) (3 + i))))) M := fun i hi d => by
    rw [show (3 : Int32) = Int32.ofNat 3 from rfl, i_add]
    exact hk (3 + i) (by omega) d
  have loop := up_ind (S := 3) (H := fun i => (∀ j, j < i → (Nat.beq (tokK B n e false) 1 && isW B (skp B n e) (tokE B n e) (3 + j)) = false) → GoP RO (d + 9) 197 [.ref 145, .int (Int32.ofNat i)] [] (gW sb ext) M 2 0 0 Q) (fun hall => ?_) (fun i hi ih hall => ?_) 0 (by omega)
  · exact GoP.eq2 (loop (fun j hj => absurd hj (by omega))) rfl rfl
  · have b3 := hall 0 (by omega)
    have b4 := hall 1 (by omega)
    have b5 := hall 2 (by omega)
    refine wp_sound [2] 60 _ _ _ _ _ _ _ ?_
    refine gt_if (a := 3) (b := 2) rfl rfl (by omega) (by omega) (fun _ => ?_) (fun h => absurd h (by omega))
    refine (hk 1 (by omega) _).use ?_
    refine zb_if (fun b1 => ?_) (fun b1 => ?_)
    rotate_left
    · obtain ⟨ht, hw⟩ := on 1 b1
      refine e_pmule (hl ht) ?_
      rw [pLine, if_pos ht, if_pos hw] at hQ
      exact hQ
    refine (hk 2 (by omega) _).use ?_
    refine zb_if (fun b2 => ?_) (fun b2 => ?_)
    rotate_left
    · obtain ⟨ht, hw⟩ := on 2 b2
      refine e_psack (hl ht) ?_
      rw [pLine, if_pos ht, if_neg (pr ht 1 b1), if_pos hw] at hQ
      exact hQ
    refine (hk 6 (by omega) _).use ?_
    refine zb_if (fun b6 => ?_) (fun b6 => ?_)
    rotate_left
    · obtain ⟨ht, hw⟩ := on 6 b6
      refine e_ppack (hl ht) ?_
      rw [pLine, if_pos ht, if_neg (pr ht 1 b1), if_neg (pr ht 2 b2), if_neg (pr ht 3 b3), if_neg (pr ht 4 b4), if_neg (pr ht 5 b5), if_pos hw] at hQ
      exact hQ
    refine (hk 7 (by omega) _).use ?_
    refine zb_if (fun b7 => ?_) (fun b7 => ?_)
    rotate_left
    · obtain ⟨ht, hw⟩ := on 7 b7
      refine e_ptrip (hl ht) ?_
      rw [pLine, if_pos ht, if_neg (pr ht 1 b1), if_neg (pr ht 2 b2), if_neg (pr ht 3 b3), if_neg (pr ht 4 b4), if_neg (pr ht 5 b5), if_neg (pr ht 6 b6), if_neg (off 7 8 (by omega) (by omega) (by omega) hw), if_pos hw] at hQ
      exact hQ
    refine (hk 8 (by omega) _).use ?_
    refine zb_if (fun b8 => ?_) (fun b8 => ?_)
    rotate_left
    · obtain ⟨ht, hw⟩ := on 8 b8
      refine e_prest (hl ht) ?_
      rw [pLine, if_pos ht, if_neg (pr ht 1 b1), if_neg (pr ht 2 b2), if_neg (pr ht 3 b3), if_neg (pr ht 4 b4), if_neg (pr ht 5 b5), if_neg (pr ht 6 b6), if_pos hw] at hQ
      exact hQ
    have hE := er_errs (M := M) (k := 1) hT.1 (by omega) (by omega)
    refine (e_errs (x := Int32.ofNat 1) h0).use ?_
    refine hQ.2 1 (skp B n e) _ ?_ (hE.V FrV.refl)
    by_cases ht : tokK B n e false = 1
    · rw [pLine, if_pos ht, if_neg (pr ht 1 b1), if_neg (pr ht 2 b2), if_neg (pr ht 3 b3), if_neg (pr ht 4 b4), if_neg (pr ht 5 b5), if_neg (pr ht 6 b6), if_neg (pr ht 8 b8), if_neg (pr ht 7 b7)]
    · rw [pLine, if_neg ht]
  · refine wp_sound [2] 60 _ _ _ _ _ _ _ ?_
    refine gt_if (a := i) (b := 2) rfl rfl (by omega) (by omega) (fun h => absurd h (by omega)) (fun _ => ?_)
    refine (stage i hi _).use ?_
    refine zb_if (fun h => ?_) (fun h => ?_)
    · refine GoP.eq2 (ih (fun j hj => ?_)) (by rw [i_inc]) rfl
      by_cases e9 : j = i
      · rw [e9]; exact h
      · exact hall j (by omega)
    · obtain ⟨ht, hw⟩ := on (3 + i) h
      refine e_pstage hi (hl ht) ?_
      rw [pLine, if_pos ht, if_neg (off (3 + i) 1 (by omega) (by omega) (by omega) hw), if_neg (off (3 + i) 2 (by omega) (by omega) (by omega) hw)] at hQ
      rcases (show i = 0 ∨ i = 1 ∨ i = 2 by omega) with rfl | rfl | rfl
      · rw [if_pos hw] at hQ
        exact hQ
      · rw [if_neg (off 4 3 (by omega) (by omega) (by omega) hw), if_pos hw] at hQ
        exact hQ
      · rw [if_neg (off 5 3 (by omega) (by omega) (by omega) hw), if_neg (off 5 4 (by omega) (by omega) (by omega) hw), if_pos hw] at hQ
        exact hQ
end MLIN
