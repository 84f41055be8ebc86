/-! the law looks at the sacks -/
section SAK
variable {RO : List mE} {d : Nat} {X : List sh} {M : mM} {Q : mQ} {m S t nx c : Nat} {N : Nat → Int32}
def fateV (N T : Nat → Int32) (k : Nat) : Int32 := if N (63 + 8 * k + 3) = 1 then (if T (63 + 8 * k + 3) = 3 then 3 else if T (63 + 8 * k + 2) < N (63 + 8 * k + 2) then 2 else 1) else 0
theorem a_fate {k : Nat} (hT : TrN M 12 N m S t) (hR : rOk N m S t) (hw : widOk M 40) (hk : k < S) (hQ : ∀ M', FrQ M M' → Q (.inl (some (.int (fateV N (trN (fun _ => 0) N m S t) k)))) (gW 143 (.inl (1, 1) :: X)) M' 0 0) : EvP RO (d + 8) 89 [.ref 0, .int (Int32.ofNat k)] (gW 143 (.inl (1, 1) :: X)) M Q := by
  refine q_fate (G0 := fun _ => 0) hT hR.1 hw (qQ.mk ?_ hQ)
  rw [u_fate, (in_s hT hR hk).1, (in_s hT hR hk).2, cond_true, fateV]
  by_cases h : N (63 + 8 * k + 3) = 1
  · rw [if_pos h, if_pos h]
  · rw [if_neg h, if_neg h]
theorem a_brings (hT : TrN M 12 N m S t) (hR : rOk N m S t) (hw : widOk M 40) (hQ : ∀ M', FrQ M M' → Q (.inl (some (.int (trN (fun _ => 0) N m S t 7 - N 7)))) (gW 143 (.inl (1, 1) :: X)) M' 0 0) : EvP RO (d + 8) 123 [.ref 0] (gW 143 (.inl (1, 1) :: X)) M Q :=
  c_tripBrings (G0 := fun _ => 0) hT hR.1 hw hQ
theorem fate_1 {T : Nat → Int32} {k : Nat} (h : N (63 + 8 * k + 3) = 1) : ¬ fateV N T k = 0 := by
  rw [fateV, if_pos h]
  by_cases h3 : T (63 + 8 * k + 3) = 3
  · rw [if_pos h3]; decide
  · rw [if_neg h3]
    by_cases h4 : T (63 + 8 * k + 2) < N (63 + 8 * k + 2)
    · rw [if_pos h4]; decide
    · rw [if_neg h4]; decide
theorem fate_0 {T : Nat → Int32} {k : Nat} (h : ¬ N (63 + 8 * k + 3) = 1) : fateV N T k = 0 := by
  rw [fateV, if_neg h]
theorem c_sacks (hT : TrN M 12 N m S t) (hR : rOk N m S t) (hv : vOk N S) (hw : widOk M 40) (hQ : ∀ M', FrQ M M' → Q (.inl (some (.int 1))) (gW 143 (.inl (1, 1) :: X)) M' 0 0) : EvP RO (d + 10) 362 [.ref 0] (gW 143 (.inl (1, 1) :: X)) M Q := by
  have hm := hR.1.1.2.2.2.1
  have hS := hR.1.1.2.2.2.2.1
  refine EvP.wp [15] 60 rfl ?_
  refine up_ind (S := S) (H := fun k => ∀ M1 L7 L8, FrQ M M1 → GoP RO (d + 9) 362 [.ref 0, .int (Int32.ofNat (plC N 0 k)), .int (Int32.ofNat (plC N 1 k)), .int (Int32.ofNat (plC N 2 k)), .int (delW N k), .int 1, .int (Int32.ofNat k), L7, L8] [] (gW 143 (.inl (1, 1) :: X)) M1 15 0 0 Q) ?_ (fun k hk ih => ?_) 0 (by omega) M _ _ FrQ.refl
  · intro M1 L7 L8 f1
    have hT1 := f1.Tr hT
    have h0 := plC_le (N := N) (x := 0) S
    have h1 := plC_le (N := N) (x := 1) S
    have h2 := plC_le (N := N) (x := 2) S
    have hs := plC_sum (N := N) (S := S) (fun k hk => by obtain ⟨v, w, _, _, _, _, p, q1, q2, _⟩ := hv.1 k hk; exact ⟨p, q1, q2⟩) S (Nat.le_refl _)
    refine wp_sound [] 90 _ _ _ _ _ _ _ ?_
    refine (a_v1 hT1).use ?_
    refine lt_if (a := S) (b := S) rfl rfl (by omega) (by omega) (fun h => absurd h (by omega)) (fun _ => ?_)
    refine ⟨fun h => absurd h (by decide), fun _ => ?_⟩
    refine (a_v2 hT1).use ?_
    refine ⟨fun _ => ?_, fun h => absurd rfl h⟩
    refine (a_v3 hT1).use ?_
    refine ⟨fun _ => ?_, fun h => absurd rfl h⟩
    refine (a_v4 hT1).use ?_
    refine ⟨fun _ => ?_, fun h => absurd rfl h⟩
    refine (a_count (k := 1) hT1 (by omega)).use ?_
    refine ⟨fun _ => ?_, fun h => absurd hv.2.2.1.symm h⟩
    refine (a_v5 hT1).use ?_
    refine (a_v1 hT1).use ?_
    rw [i_add, i_add, i_add, hs]
    refine ⟨fun _ => ?_, fun h => absurd rfl h⟩
    refine lt_if (a := 0) (b := plC N 1 S) rfl rfl (by omega) (by omega) (fun _ => ⟨by decide +kernel, hQ M1 f1⟩) (fun h => ?_)
    refine a_brings hT1 hR (f1.wid hw) (fun M2 f2 => ?_)
    rw [trip_none hS (plC_zero S (by omega)), Int32.sub_self]
    exact ⟨fun _ => ⟨by decide +kernel, hQ M2 (f1.trans f2)⟩, fun h => absurd rfl h⟩
  · intro M1 L7 L8 f1
    have hT1 := f1.Tr hT
    obtain ⟨v, w, v1, w1, vw, w9, p, p4, hp, e6, e6'⟩ := hv.1 k hk
    have hso := hR.1.2.1 k hk
    have fz : ∀ T : Nat → Int32, p ≠ 1 → fateV N T k = 0 := fun T h => fate_0 (fun e => h (place_1 p4 hp e))
    have fn : ∀ T : Nat → Int32, p = 1 → ¬ fateV N T k = 0 := fun T h => fate_1 (by rw [hp, h]; rfl)
    refine wp_sound [15] 120 _ _ _ _ _ _ _ ?_
    refine (a_v1 hT1).use ?_
    refine lt_if (a := k) (b := S) rfl rfl (by omega) (by omega) (fun _ => ?_) (fun h => absurd h (by omega))
    refine ⟨fun h => absurd h (by decide), fun _ => ?_⟩
    refine (a_sack (w := 3) hT1 hR hk (by omega)).use ?_
    rw [hp]
    refine a_fate hT1 hR (f1.wid hw) hk (fun M2 f2 => ?_)
    have hT2 := (f1.trans f2).Tr hT
    have x2 : ∀ d, EvR RO (d + 5) 114 [.ref 0, .int (Int32.ofNat k), .int 2] (gW 143 (.inl (1, 1) :: X)) M2 (some (.int (Int32.ofNat v))) M2 := fun d => by rw [← v1]; exact a_sack (w := 2) hT2 hR hk (by omega)
    have x7 : ∀ d, EvR RO (d + 5) 114 [.ref 0, .int (Int32.ofNat k), .int 7] (gW 143 (.inl (1, 1) :: X)) M2 (some (.int (Int32.ofNat w))) M2 := fun d => by rw [← w1]; exact a_sack (w := 7) hT2 hR hk (by omega)
    have x4 := fun d => a_sack (RO := RO) (d := d) (X := X) (w := 4) hT2 hR hk (by omega)
    have x5 := fun d => a_sack (RO := RO) (d := d) (X := X) (w := 5) hT2 hR hk (by omega)
    have x6 := fun d => a_sack (RO := RO) (d := d) (X := X) (w := 6) hT2 hR hk (by omega)
    generalize hf : fateV N (trN (fun _ => 0) N m S t) k = fv
    have fz' := fz (trN (fun _ => 0) N m S t)
    have fn' := fn (trN (fun _ => 0) N m S t)
    rw [hf] at fz' fn'
    rcases (show p = 0 ∨ p = 1 ∨ p = 2 ∨ p = 3 by omega) with rfl | rfl | rfl | rfl
    · have e0 : Int32.ofNat (plC N 0 (k + 1)) = Int32.ofNat (plC N 0 k) + 1 := by rw [plC, hp, show decide (Int32.ofNat 0 = 0) = true from by decide]; exact (i_add _ 1).symm
      have e1 : Int32.ofNat (plC N 1 (k + 1)) = Int32.ofNat (plC N 1 k) + 0 := by rw [plC, hp, show decide (Int32.ofNat 0 = 1) = false from by decide]; exact (i_add _ 0).symm
      have e2 : Int32.ofNat (plC N 2 (k + 1)) = Int32.ofNat (plC N 2 k) + 0 := by rw [plC, hp, show decide (Int32.ofNat 0 = 2) = false from by decide]; exact (i_add _ 0).symm
      have e3 : delW N (k + 1) = delW N k + 0 := by rw [delW, sm, hp, show decide (Int32.ofNat 0 = 2) = false from by decide]; rfl
      obtain ⟨j2, s5⟩ : N (63 + 8 * k + 4) = -1 ∧ N (63 + 8 * k + 5) = -1 := by
        rcases hso with ⟨h9, _⟩ | ⟨_, a, b⟩
        · rw [hp] at h9; exact absurd h9 (by decide)
        · exact ⟨a, b⟩
      rw [j2] at x4
      rw [s5] at x5
      rw [e6 (by omega)] at x6
      refine ⟨fun _ => ?_, fun h => absurd (by decide) h⟩
      refine ⟨fun h => absurd h (by decide), fun _ => ?_⟩
      refine ⟨fun h => absurd h (by decide), fun _ => ?_⟩
      refine ⟨fun h => absurd h (by decide), fun _ => ?_⟩
      refine ⟨fun h => absurd h (by decide), fun _ => ?_⟩
      refine (x4 _).use ?_
      refine ⟨fun _ => ?_, fun h => absurd (by decide) h⟩
      refine ⟨fun _ => ?_, fun h => absurd (by decide) h⟩
      refine ⟨fun h => absurd h (by decide), fun _ => ?_⟩
      refine (x5 _).use ?_
      refine ⟨fun _ => ?_, fun h => absurd (by decide) h⟩
      refine ⟨fun _ => ?_, fun h => absurd (by decide) h⟩
      refine ⟨fun h => absurd h (by decide), fun _ => ?_⟩
      refine (x6 _).use ?_
      refine ⟨fun _ => ?_, fun h => absurd (by decide) h⟩
      refine ⟨fun _ => ?_, fun h => absurd (by decide) h⟩
      refine (x2 _).use ?_
      refine (x7 _).use ?_
      refine lt_if (a := w) (b := v) rfl rfl (by omega) (by omega) (fun h => absurd h (by omega)) (fun _ => ?_)
      refine ⟨fun _ => ?_, fun h => absurd (fz' (by omega)) h⟩
      refine ⟨fun h => absurd h (by decide), fun _ => ?_⟩
      refine ⟨fun _ => ?_, fun h => absurd (by decide) h⟩
      refine GoP.eq2 (ih M2 (.int (Int32.ofNat 0)) (.int fv) (f1.trans f2)) ?_ rfl
      rw [e0, e1, e2, e3, ← i_inc (i := k)]
    · have e0 : Int32.ofNat (plC N 0 (k + 1)) = Int32.ofNat (plC N 0 k) + 0 := by rw [plC, hp, show decide (Int32.ofNat 1 = 0) = false from by decide]; exact (i_add _ 0).symm
      have e1 : Int32.ofNat (plC N 1 (k + 1)) = Int32.ofNat (plC N 1 k) + 1 := by rw [plC, hp, show decide (Int32.ofNat 1 = 1) = true from by decide]; exact (i_add _ 1).symm
      have e2 : Int32.ofNat (plC N 2 (k + 1)) = Int32.ofNat (plC N 2 k) + 0 := by rw [plC, hp, show decide (Int32.ofNat 1 = 2) = false from by decide]; exact (i_add _ 0).symm
      have e3 : delW N (k + 1) = delW N k + 0 := by rw [delW, sm, hp, show decide (Int32.ofNat 1 = 2) = false from by decide]; rfl
      obtain ⟨j, j1, j2, j3⟩ : ∃ j, j < m ∧ N (63 + 8 * k + 4) = Int32.ofNat j ∧ ∃ s, s < 2 ∧ N (63 + 8 * k + 5) = Int32.ofNat s := by
        rcases hso with ⟨_, ⟨j, a, b⟩, h5 | h5⟩ | ⟨h9, _⟩
        · exact ⟨j, a, b, 0, by omega, h5⟩
        · exact ⟨j, a, b, 1, by omega, h5⟩
        · exact absurd hp h9
      obtain ⟨sd, s2, s5⟩ := j3
      rw [j2] at x4
      rw [s5] at x5
      rw [e6 (by omega)] at x6
      refine ⟨fun h => absurd h (by decide), fun _ => ?_⟩
      refine ⟨fun _ => ?_, fun h => absurd (by decide) h⟩
      refine ⟨fun h => absurd h (by decide), fun _ => ?_⟩
      refine ⟨fun h => absurd h (by decide), fun _ => ?_⟩
      refine ⟨fun _ => ?_, fun h => absurd (by decide) h⟩
      refine (x4 _).use ?_
      refine nn_if (a := j) rfl (by omega) ?_
      refine ⟨fun _ => ?_, fun h => absurd (by decide) h⟩
      refine ⟨fun _ => ?_, fun h => absurd (by decide) h⟩
      refine (x5 _).use ?_
      refine nn_if (a := sd) rfl (by omega) ?_
      refine ⟨fun _ => ?_, fun h => absurd (by decide) h⟩
      refine ⟨fun h => absurd h (by decide), fun _ => ?_⟩
      refine (x6 _).use ?_
      refine ⟨fun _ => ?_, fun h => absurd (by decide) h⟩
      refine ⟨fun _ => ?_, fun h => absurd (by decide) h⟩
      refine (x2 _).use ?_
      refine (x7 _).use ?_
      refine lt_if (a := w) (b := v) rfl rfl (by omega) (by omega) (fun h => absurd h (by omega)) (fun _ => ?_)
      refine ⟨fun h => absurd h (fn' rfl), fun _ => ?_⟩
      refine ⟨fun _ => ?_, fun h => absurd (by decide) h⟩
      refine ⟨fun _ => ?_, fun h => absurd (by decide) h⟩
      refine GoP.eq2 (ih M2 (.int (Int32.ofNat 1)) (.int fv) (f1.trans f2)) ?_ rfl
      rw [e0, e1, e2, e3, ← i_inc (i := k)]
    · have e0 : Int32.ofNat (plC N 0 (k + 1)) = Int32.ofNat (plC N 0 k) + 0 := by rw [plC, hp, show decide (Int32.ofNat 2 = 0) = false from by decide]; exact (i_add _ 0).symm
      have e1 : Int32.ofNat (plC N 1 (k + 1)) = Int32.ofNat (plC N 1 k) + 0 := by rw [plC, hp, show decide (Int32.ofNat 2 = 1) = false from by decide]; exact (i_add _ 0).symm
      have e2 : Int32.ofNat (plC N 2 (k + 1)) = Int32.ofNat (plC N 2 k) + 1 := by rw [plC, hp, show decide (Int32.ofNat 2 = 2) = true from by decide]; exact (i_add _ 1).symm
      have e3 : delW N (k + 1) = delW N k + N (63 + 8 * k + 2) := by rw [delW, sm, hp, show decide (Int32.ofNat 2 = 2) = true from by decide]; rfl
      obtain ⟨j2, s5⟩ : N (63 + 8 * k + 4) = -1 ∧ N (63 + 8 * k + 5) = -1 := by
        rcases hso with ⟨h9, _⟩ | ⟨_, a, b⟩
        · rw [hp] at h9; exact absurd h9 (by decide)
        · exact ⟨a, b⟩
      rw [j2] at x4
      rw [s5] at x5
      obtain ⟨D, D1, D2⟩ := e6' (by omega)
      rw [D1] at x6
      refine ⟨fun h => absurd h (by decide), fun _ => ?_⟩
      refine ⟨fun h => absurd h (by decide), fun _ => ?_⟩
      refine ⟨fun _ => ?_, fun h => absurd (by decide) h⟩
      refine ⟨fun _ => ?_, fun h => absurd (by decide) h⟩
      refine (x2 _).use ?_
      refine ⟨fun h => absurd h (by decide), fun _ => ?_⟩
      refine (x4 _).use ?_
      refine ⟨fun _ => ?_, fun h => absurd (by decide) h⟩
      refine ⟨fun _ => ?_, fun h => absurd (by decide) h⟩
      refine ⟨fun h => absurd h (by decide), fun _ => ?_⟩
      refine (x5 _).use ?_
      refine ⟨fun _ => ?_, fun h => absurd (by decide) h⟩
      refine ⟨fun _ => ?_, fun h => absurd (by decide) h⟩
      refine ⟨fun _ => ?_, fun h => absurd (by decide) h⟩
      refine (x6 _).use ?_
      refine nn_if (a := D) rfl (by omega) ?_
      refine ⟨fun _ => ?_, fun h => absurd (by decide) h⟩
      refine (x2 _).use ?_
      refine (x7 _).use ?_
      refine lt_if (a := w) (b := v) rfl rfl (by omega) (by omega) (fun h => absurd h (by omega)) (fun _ => ?_)
      refine ⟨fun _ => ?_, fun h => absurd (fz' (by omega)) h⟩
      refine ⟨fun h => absurd h (by decide), fun _ => ?_⟩
      refine ⟨fun _ => ?_, fun h => absurd (by decide) h⟩
      refine GoP.eq2 (ih M2 (.int (Int32.ofNat 2)) (.int fv) (f1.trans f2)) ?_ rfl
      rw [e0, e1, e2, e3, ← i_inc (i := k), v1]
    · have e0 : Int32.ofNat (plC N 0 (k + 1)) = Int32.ofNat (plC N 0 k) + 0 := by rw [plC, hp, show decide (Int32.ofNat 3 = 0) = false from by decide]; exact (i_add _ 0).symm
      have e1 : Int32.ofNat (plC N 1 (k + 1)) = Int32.ofNat (plC N 1 k) + 0 := by rw [plC, hp, show decide (Int32.ofNat 3 = 1) = false from by decide]; exact (i_add _ 0).symm
      have e2 : Int32.ofNat (plC N 2 (k + 1)) = Int32.ofNat (plC N 2 k) + 0 := by rw [plC, hp, show decide (Int32.ofNat 3 = 2) = false from by decide]; exact (i_add _ 0).symm
      have e3 : delW N (k + 1) = delW N k + 0 := by rw [delW, sm, hp, show decide (Int32.ofNat 3 = 2) = false from by decide]; rfl
      obtain ⟨j2, s5⟩ : N (63 + 8 * k + 4) = -1 ∧ N (63 + 8 * k + 5) = -1 := by
        rcases hso with ⟨h9, _⟩ | ⟨_, a, b⟩
        · rw [hp] at h9; exact absurd h9 (by decide)
        · exact ⟨a, b⟩
      rw [j2] at x4
      rw [s5] at x5
      obtain ⟨D, D1, D2⟩ := e6' (by omega)
      rw [D1] at x6
      refine ⟨fun h => absurd h (by decide), fun _ => ?_⟩
      refine ⟨fun h => absurd h (by decide), fun _ => ?_⟩
      refine ⟨fun h => absurd h (by decide), fun _ => ?_⟩
      refine ⟨fun h => absurd h (by decide), fun _ => ?_⟩
      refine ⟨fun h => absurd h (by decide), fun _ => ?_⟩
      refine (x4 _).use ?_
      refine ⟨fun _ => ?_, fun h => absurd (by decide) h⟩
      refine ⟨fun _ => ?_, fun h => absurd (by decide) h⟩
      refine ⟨fun h => absurd h (by decide), fun _ => ?_⟩
      refine (x5 _).use ?_
      refine ⟨fun _ => ?_, fun h => absurd (by decide) h⟩
      refine ⟨fun _ => ?_, fun h => absurd (by decide) h⟩
      refine ⟨fun _ => ?_, fun h => absurd (by decide) h⟩
      refine (x6 _).use ?_
      refine nn_if (a := D) rfl (by omega) ?_
      refine ⟨fun _ => ?_, fun h => absurd (by decide) h⟩
      refine (x2 _).use ?_
      refine (x7 _).use ?_
      refine lt_if (a := w) (b := v) rfl rfl (by omega) (by omega) (fun h => absurd h (by omega)) (fun _ => ?_)
      refine ⟨fun _ => ?_, fun h => absurd (fz' (by omega)) h⟩
      refine ⟨fun h => absurd h (by decide), fun _ => ?_⟩
      refine ⟨fun _ => ?_, fun h => absurd (by decide) h⟩
      refine GoP.eq2 (ih M2 (.int (Int32.ofNat 3)) (.int fv) (f1.trans f2)) ?_ rfl
      rw [e0, e1, e2, e3, ← i_inc (i := k)]
end SAK
