/-! the law looks at the mules -/
section MUL
variable {RO : List mE} {d : Nat} {X : List sh} {M : mM} {Q : mQ} {m S t nx c : Nat} {N : Nat → Int32}
theorem mv_eq {i : Nat} (hi : i < 1000000) : (muleV N S (Int32.ofNat i) 0 = N (15 + 8 * i) ∧ muleV N S (Int32.ofNat i) 1 = N (15 + 8 * i + 1) ∧ muleV N S (Int32.ofNat i) 2 = bearN N i ∧ muleV N S (Int32.ofNat i) 3 = loadN N (Int32.ofNat i) S ∧ muleV N S (Int32.ofNat i) 4 = wOn N (Int32.ofNat i) 0 S) ∧ muleV N S (Int32.ofNat i) 5 = wOn N (Int32.ofNat i) 1 S ∧ muleV N S (Int32.ofNat i) 6 = sOn N (Int32.ofNat i) S ∧ muleV N S (Int32.ofNat i) 7 = zb (!decide (N 0 < absB (wOn N (Int32.ofNat i) 0 S - wOn N (Int32.ofNat i) 1 S))) ∧ muleV N S (Int32.ofNat i) 8 = vOn N (Int32.ofNat i) S := by
  refine ⟨⟨?_, ?_, ?_, rfl, rfl⟩, rfl, rfl, rfl, rfl⟩
  · show N (15 + 8 * (Int32.ofNat i).toNatClampNeg) = _
    rw [clamp_nn hi]
  · show N (15 + 8 * (Int32.ofNat i).toNatClampNeg + 1) = _
    rw [clamp_nn hi]
  · show bearN N (Int32.ofNat i).toNatClampNeg = _
    rw [clamp_nn hi]
theorem a_m0 {i : Nat} (hT : TrN M 12 N m S t) (hR : rOk N m S t) (hi : i < m) : EvR RO (d + 7) 100 [.ref 0, .int (Int32.ofNat i), .int 0] (gW 143 (.inl (1, 1) :: X)) M (some (.int (N (15 + 8 * i)))) M := by
  have h := a_mule (RO := RO) (d := d) (X := X) (w := 0) hT hR hi (by omega)
  have e := (mv_eq (N := N) (S := S) (i := i) (by have := hR.1.1.2.2.2.1; omega)).1.1
  rw [show Int32.ofNat 0 = 0 from rfl, e] at h; exact h
theorem a_m1 {i : Nat} (hT : TrN M 12 N m S t) (hR : rOk N m S t) (hi : i < m) : EvR RO (d + 7) 100 [.ref 0, .int (Int32.ofNat i), .int 1] (gW 143 (.inl (1, 1) :: X)) M (some (.int (N (15 + 8 * i + 1)))) M := by
  have h := a_mule (RO := RO) (d := d) (X := X) (w := 1) hT hR hi (by omega)
  have e := (mv_eq (N := N) (S := S) (i := i) (by have := hR.1.1.2.2.2.1; omega)).1.2.1
  rw [show Int32.ofNat 1 = 1 from rfl, e] at h; exact h
theorem a_m2 {i : Nat} (hT : TrN M 12 N m S t) (hR : rOk N m S t) (hi : i < m) : EvR RO (d + 7) 100 [.ref 0, .int (Int32.ofNat i), .int 2] (gW 143 (.inl (1, 1) :: X)) M (some (.int (bearN N i))) M := by
  have h := a_mule (RO := RO) (d := d) (X := X) (w := 2) hT hR hi (by omega)
  have e := (mv_eq (N := N) (S := S) (i := i) (by have := hR.1.1.2.2.2.1; omega)).1.2.2.1
  rw [show Int32.ofNat 2 = 2 from rfl, e] at h; exact h
theorem a_m3 {i : Nat} (hT : TrN M 12 N m S t) (hR : rOk N m S t) (hi : i < m) : EvR RO (d + 7) 100 [.ref 0, .int (Int32.ofNat i), .int 3] (gW 143 (.inl (1, 1) :: X)) M (some (.int (loadN N (Int32.ofNat i) S))) M :=
  a_mule (w := 3) hT hR hi (by omega)
theorem a_m4 {i : Nat} (hT : TrN M 12 N m S t) (hR : rOk N m S t) (hi : i < m) : EvR RO (d + 7) 100 [.ref 0, .int (Int32.ofNat i), .int 4] (gW 143 (.inl (1, 1) :: X)) M (some (.int (wOn N (Int32.ofNat i) 0 S))) M :=
  a_mule (w := 4) hT hR hi (by omega)
theorem a_m5 {i : Nat} (hT : TrN M 12 N m S t) (hR : rOk N m S t) (hi : i < m) : EvR RO (d + 7) 100 [.ref 0, .int (Int32.ofNat i), .int 5] (gW 143 (.inl (1, 1) :: X)) M (some (.int (wOn N (Int32.ofNat i) 1 S))) M :=
  a_mule (w := 5) hT hR hi (by omega)
theorem a_m6 {i : Nat} (hT : TrN M 12 N m S t) (hR : rOk N m S t) (hi : i < m) : EvR RO (d + 7) 100 [.ref 0, .int (Int32.ofNat i), .int 6] (gW 143 (.inl (1, 1) :: X)) M (some (.int (sOn N (Int32.ofNat i) S))) M :=
  a_mule (w := 6) hT hR hi (by omega)
theorem a_m7 {i : Nat} (hT : TrN M 12 N m S t) (hR : rOk N m S t) (hi : i < m) : EvR RO (d + 7) 100 [.ref 0, .int (Int32.ofNat i), .int 7] (gW 143 (.inl (1, 1) :: X)) M (some (.int (zb (!decide (N 0 < absB (wOn N (Int32.ofNat i) 0 S - wOn N (Int32.ofNat i) 1 S)))))) M :=
  a_mule (w := 7) hT hR hi (by omega)
theorem a_m8 {i : Nat} (hT : TrN M 12 N m S t) (hR : rOk N m S t) (hi : i < m) : EvR RO (d + 7) 100 [.ref 0, .int (Int32.ofNat i), .int 8] (gW 143 (.inl (1, 1) :: X)) M (some (.int (vOn N (Int32.ofNat i) S))) M :=
  a_mule (w := 8) hT hR hi (by omega)
theorem in_m {i : Nat} (hT : TrN M 12 N m S t) (hR : rOk N m S t) (hi : i < m) : inB (Int32.ofNat i) 0 (N 3 - 1) = true ∧ (Int32.ofNat i).toNatClampNeg = i := by
  have := hR.1.1.2.2.2.1
  exact ⟨inB_in (by omega) hT.1.1 hi rfl, clamp_nn (by omega)⟩
theorem in_s {k : Nat} (hT : TrN M 12 N m S t) (hR : rOk N m S t) (hk : k < S) : inB (Int32.ofNat k) 0 (N 4 - 1) = true ∧ (Int32.ofNat k).toNatClampNeg = k := by
  have := hR.1.1.2.2.2.2.1
  exact ⟨inB_in (by omega) hT.1.2.1 hk rfl, clamp_nn (by omega)⟩
theorem a_whyNot {k i : Nat} (hT : TrN M 12 N m S t) (hR : rOk N m S t) (hk : k < S) (hi : i < m) : EvR RO (d + 7) 128 [.ref 0, .int (Int32.ofNat k), .int (Int32.ofNat i)] (gW 143 (.inl (1, 1) :: X)) M (some (.int (prN N k i S))) M :=
  q_whyNot hT hR.1.2.1 (qP_R (by rw [u_whyNot, (in_s hT hR hk).1, (in_m hT hR hi).1, (in_s hT hR hk).2, (in_m hT hR hi).2]; rfl))
theorem a_why0 (hT : TrN M 12 N m S t) (hR : rOk N m S t) : EvR RO (d + 7) 127 [.ref 0, .int 0] (gW 143 (.inl (1, 1) :: X)) M (some (.int (whyN N m S))) M :=
  q_whyNoTrip hT hR.1.2.1 (qP_R rfl)
theorem a_why1 (hT : TrN M 12 N m S t) (hR : rOk N m S t) : EvR RO (d + 7) 127 [.ref 0, .int 1] (gW 143 (.inl (1, 1) :: X)) M (some (.int (bif decide (whyN N m S = 2) then enc (tiltedI N S m) else -1))) M :=
  q_whyNoTrip hT hR.1.2.1 (qP_R rfl)
theorem a_best {i : Nat} (hT : TrN M 12 N m S t) (hR : rOk N m S t) (hi : i < m) : EvR RO (d + 7) 82 [.ref 0, .int (Int32.ofNat i)] (gW 143 (.inl (1, 1) :: X)) M (some (.int (enc (bestI N i S S)))) M :=
  q_bestSack hT hR.1.2.1 (qP_R (by rw [u_bestSack, (in_m hT hR hi).1, (in_m hT hR hi).2]; rfl))
theorem a_light {i : Nat} (hT : TrN M 12 N m S t) (hR : rOk N m S t) (hi : i < m) : EvR RO (d + 7) 96 [.ref 0, .int (Int32.ofNat i)] (gW 143 (.inl (1, 1) :: X)) M (some (.int (lightN N (Int32.ofNat i) S))) M :=
  q_lighter hT hR.1.2.1 hR.1.2.2.1 (qP_R (by rw [u_lighter, (in_m hT hR hi).1]; rfl))
theorem a_fresh {i : Nat} (hT : TrN M 12 N m S t) (hR : rOk N m S t) (hi : i < m) : EvR RO (d + 7) 93 [.ref 0, .int (Int32.ofNat i)] (gW 143 (.inl (1, 1) :: X)) M (some (.int (freshN N i))) M :=
  q_freshIn hT hR.1 (qP_R (by rw [u_freshIn, (in_m hT hR hi).1, (in_m hT hR hi).2]; rfl))
theorem a_deep {i : Nat} (hT : TrN M 12 N m S t) (hR : rOk N m S t) (hi : i < m) : EvR RO (d + 7) 85 [.ref 0, .int (Int32.ofNat i)] (gW 143 (.inl (1, 1) :: X)) M (some (.int (Int32.ofNat (deepN N i S 9)))) M :=
  q_deepest hT hR.1.2.1 (qP_R (by rw [u_deepest, (in_m hT hR hi).1, (in_m hT hR hi).2]; rfl))
theorem a_tired {i : Nat} (hT : TrN M 12 N m S t) (hR : rOk N m S t) (hw : widOk M 40) (hi : i < m) (hQ : ∀ M', FrQ M M' → Q (.inl (some (.int (trN (fun _ => 0) N m S t (15 + 8 * i + 1))))) (gW 143 (.inl (1, 1) :: X)) M' 0 0) : EvP RO (d + 8) 121 [.ref 0, .int (Int32.ofNat i)] (gW 143 (.inl (1, 1) :: X)) M Q :=
  q_tiredBy (G0 := fun _ => 0) hT hR.1 hw (qQ.mk (by rw [u_tiredBy, (in_m hT hR hi).1, (in_m hT hR hi).2]; rfl) hQ)
theorem a_bestW {i : Nat} (hT : TrN M 12 N m S t) (hR : rOk N m S t) (hi : i < m) (hQ : ∀ M', FrQ M M' → Q (.inl (some (.int (dpN N (fun _ => 0) (roomN N S (Int32.ofNat i)) S (roomN N S (Int32.ofNat i)))))) (gW 143 (.inl (1, 1) :: X)) M' 0 0) : EvP RO (d + 7) 83 [.ref 0, .int (Int32.ofNat i)] (gW 143 (.inl (1, 1) :: X)) M Q :=
  q_bestWorth hT hR.1 hR.2.2.1 (qQ.mk (by rw [u_bestWorth, (in_m hT hR hi).1]; rfl) hQ)
/-- the loop that weighs -/
theorem mu_1 {i : Nat} {L1 L2 L3 L4 L10 L14 L15 : Value} {b11 : Int32} (hT : TrN M 12 N m S t) (hR : rOk N m S t) (hi : i < m) (h : ∀ L13, GoP RO (d + 9) 358 [.ref 0, L1, L2, L3, L4, .int (Int32.ofNat i), .int (wOn N (Int32.ofNat i) 0 S), .int (wOn N (Int32.ofNat i) 1 S), .int (sOn N (Int32.ofNat i) S), .int (vOn N (Int32.ofNat i) S), L10, .int b11, .int (Int32.ofNat S), L13, L14, L15] [] (gW 143 (.inl (1, 1) :: X)) M 213 0 0 Q) (L13 : Value) : GoP RO (d + 9) 358 [.ref 0, L1, L2, L3, L4, .int (Int32.ofNat i), .int 0, .int 0, .int 0, .int 0, L10, .int b11, .int 0, L13, L14, L15] [] (gW 143 (.inl (1, 1) :: X)) M 79 0 0 Q := by
  have hm := hR.1.1.2.2.2.1
  have hS := hR.1.1.2.2.2.2.1
  refine up_ind (S := S) (H := fun k => ∀ L13, GoP RO (d + 9) 358 [.ref 0, L1, L2, L3, L4, .int (Int32.ofNat i), .int (wOn N (Int32.ofNat i) 0 k), .int (wOn N (Int32.ofNat i) 1 k), .int (sOn N (Int32.ofNat i) k), .int (vOn N (Int32.ofNat i) k), L10, .int b11, .int (Int32.ofNat k), L13, L14, L15] [] (gW 143 (.inl (1, 1) :: X)) M 79 0 0 Q) ?_ (fun k hk ih => ?_) 0 (by omega) L13
  · intro L13
    refine wp_sound [213] 60 _ _ _ _ _ _ _ ?_
    refine (a_v1 hT).use ?_
    refine lt_if (a := S) (b := S) rfl rfl (by omega) (by omega) (fun h => absurd h (by omega)) (fun _ => ?_)
    exact h L13
  · intro L13
    have hso := hR.1.2.1 k hk
    have hon := on_eq (j := i) hso (by omega)
    refine wp_sound [79] 90 _ _ _ _ _ _ _ ?_
    refine (a_v1 hT).use ?_
    refine lt_if (a := k) (b := S) rfl rfl (by omega) (by omega) (fun _ => ?_) (fun h => absurd h (by omega))
    refine (a_sack (w := 4) hT hR hk (by omega)).use ?_
    refine de_if (fun h4 => ?_) (fun h4 => ?_)
    · rw [hon] at h4
      have h1 := on_1 h4
      refine ⟨fun h => absurd h (by decide), fun _ => ?_⟩
      refine (a_sack (w := 5) hT hR hk (by omega)).use ?_
      rcases hso with ⟨_, _, h5 | h5⟩ | ⟨h9, _⟩
      · rw [h5]
        refine ⟨fun _ => ?_, fun h => absurd rfl h⟩
        refine (a_sack (w := 1) hT hR hk (by omega)).use ?_
        refine ⟨fun h => absurd h (by decide), fun _ => ?_⟩
        refine (a_sack (w := 5) hT hR hk (by omega)).use ?_
        rw [h5]
        refine ⟨fun h => absurd h (by decide), fun _ => ?_⟩
        refine ⟨fun h => absurd h (by decide), fun _ => ?_⟩
        refine ⟨fun h => absurd h (by decide), fun _ => ?_⟩
        refine (a_sack (w := 2) hT hR hk (by omega)).use ?_
        refine GoP.eq2 (ih (.int 1)) ?_ rfl
        rw [i_inc]
        simp only [wOn, sOn, vOn, sm, h4, h5, Bool.true_and, cond_true, show decide ((0 : Int32) = 0) = true from by decide, show decide ((0 : Int32) = 1) = false from by decide, cond_false, zb, decide_true]
      · rw [h5]
        refine ⟨fun h => absurd h (by decide), fun _ => ?_⟩
        refine ⟨fun h => absurd h (by decide), fun _ => ?_⟩
        refine (a_sack (w := 5) hT hR hk (by omega)).use ?_
        rw [h5]
        refine ⟨fun _ => ?_, fun h => absurd rfl h⟩
        refine (a_sack (w := 1) hT hR hk (by omega)).use ?_
        refine ⟨fun h => absurd h (by decide), fun _ => ?_⟩
        refine ⟨fun h => absurd h (by decide), fun _ => ?_⟩
        refine (a_sack (w := 2) hT hR hk (by omega)).use ?_
        refine GoP.eq2 (ih (.int 1)) ?_ rfl
        rw [i_inc]
        simp only [wOn, sOn, vOn, sm, h4, h5, Bool.true_and, cond_true, show decide ((1 : Int32) = 0) = false from by decide, show decide ((1 : Int32) = 1) = true from by decide, cond_false, zb, decide_true]
      · exact absurd h1 h9
    · rw [hon] at h4
      refine ⟨fun _ => ?_, fun h => absurd rfl h⟩
      refine ⟨fun _ => ?_, fun h => absurd rfl h⟩
      refine ⟨fun _ => ?_, fun h => absurd rfl h⟩
      refine ⟨fun _ => ?_, fun h => absurd rfl h⟩
      refine GoP.eq2 (ih (.int 0)) ?_ rfl
      rw [i_inc]
      simp only [wOn, sOn, vOn, sm, h4, Bool.false_and, cond_false, zb, decide_true]
/-- the loop that asks why not, and finds the best -/
theorem bestI_at {i S k : Nat} : bestI N i S = pick (fun k => decide (prN N k i S = 0)) (fun k b => decide (N (63 + 8 * b + 2) * N (63 + 8 * k + 1) < N (63 + 8 * k + 2) * N (63 + 8 * b + 1))) := rfl
theorem mu_2 {i : Nat} {L14 L15 : Value} {b1 b2 b3 b8 b9 : Int32} (hT : TrN M 12 N m S t) (hR : rOk N m S t) (hi : i < m) (h : ∀ L13, GoP RO (d + 9) 358 [.ref 0, .int b1, .int b2, .int b3, .int 1, .int (Int32.ofNat i), .int (wOn N (Int32.ofNat i) 0 S), .int (wOn N (Int32.ofNat i) 1 S), .int b8, .int b9, .int (bearN N i), .int (enc (bestI N i S S)), .int (Int32.ofNat S), L13, L14, L15] [] (gW 143 (.inl (1, 1) :: X)) M 348 0 0 Q) (L12 L13 : Value) : GoP RO (d + 9) 358 [.ref 0, .int b1, .int b2, .int b3, .int 1, .int (Int32.ofNat i), .int (wOn N (Int32.ofNat i) 0 S), .int (wOn N (Int32.ofNat i) 1 S), .int b8, .int b9, .int (bearN N i), .int (-1), L12, L13, L14, L15] [] (gW 143 (.inl (1, 1) :: X)) M 213 0 0 Q := by
  have hm := hR.1.1.2.2.2.1
  have hS := hR.1.1.2.2.2.2.1
  refine wp_sound [216] 60 _ _ _ _ _ _ _ ?_
  refine up_ind (S := S) (H := fun k => ∀ L13, GoP RO (d + 9) 358 [.ref 0, .int b1, .int b2, .int b3, .int 1, .int (Int32.ofNat i), .int (wOn N (Int32.ofNat i) 0 S), .int (wOn N (Int32.ofNat i) 1 S), .int b8, .int b9, .int (bearN N i), .int (enc (bestI N i S k)), .int (Int32.ofNat k), L13, L14, L15] [] (gW 143 (.inl (1, 1) :: X)) M 216 0 0 Q) ?_ (fun k hk ih => ?_) 0 (by omega) L13
  · intro L13
    refine wp_sound [348] 60 _ _ _ _ _ _ _ ?_
    refine (a_v1 hT).use ?_
    refine lt_if (a := S) (b := S) rfl rfl (by omega) (by omega) (fun h => absurd h (by omega)) (fun _ => ?_)
    exact h L13
  · intro L13
    -- from the reason on
    have rest : GoP RO (d + 9) 358 [.ref 0, .int b1, .int b2, .int b3, .int 1, .int (Int32.ofNat i), .int (wOn N (Int32.ofNat i) 0 S), .int (wOn N (Int32.ofNat i) 1 S), .int b8, .int b9, .int (bearN N i), .int (enc (bestI N i S k)), .int (Int32.ofNat k), L13, L14, L15] [.int (prN N k i S)] (gW 143 (.inl (1, 1) :: X)) M 268 0 0 Q := by
      refine wp_sound [216] 90 _ _ _ _ _ _ _ ?_
      refine (a_whyNot hT hR hk hi).use ?_
      refine ⟨fun _ => ?_, fun h => absurd rfl h⟩
      refine ⟨fun h0 => ?_, fun h0 => ?_⟩
      · have hp : (fun k => decide (prN N k i S = 0)) k = true := decide_eq_true h0
        cases hb : bestI N i S k with
        | none =>
          refine ⟨fun _ => ?_, fun h => absurd (show ((-1 : Int32) < 0) by decide) h⟩
          refine GoP.eq2 (ih (.int (prN N k i S))) ?_ rfl
          rw [i_inc, show bestI N i S (k + 1) = some k from pick_new hb hp]; rfl
        | some b =>
          have hbk := (pick_lt hb).1
          refine nn_if (a := b) rfl (by omega) ?_
          refine (a_sack (w := 2) hT hR hk (by omega)).use ?_
          refine (a_sack (i := b) (w := 1) hT hR (by omega) (by omega)).use ?_
          refine (a_sack (i := b) (w := 2) hT hR (by omega) (by omega)).use ?_
          refine (a_sack (w := 1) hT hR hk (by omega)).use ?_
          have hpo : bestI N i S (k + 1) = bif decide (N (63 + 8 * b + 2) * N (63 + 8 * k + 1) < N (63 + 8 * k + 2) * N (63 + 8 * b + 1)) then some k else some b := pick_old hb hp
          refine de_if (fun h2 => ?_) (fun h2 => ?_)
          · refine GoP.eq2 (ih (.int (prN N k i S))) ?_ rfl
            rw [i_inc, hpo, h2]; rfl
          · refine GoP.eq2 (ih (.int (prN N k i S))) ?_ rfl
            rw [i_inc, hpo, h2]; rfl
      · have hp : (fun k => decide (prN N k i S = 0)) k = false := decide_eq_false h0
        refine GoP.eq2 (ih (.int (prN N k i S))) ?_ rfl
        rw [i_inc, show bestI N i S (k + 1) = bestI N i S k from pick_off hp]
    refine wp_sound [268] 60 _ _ _ _ _ _ _ ?_
    refine (a_v1 hT).use ?_
    refine lt_if (a := k) (b := S) rfl rfl (by omega) (by omega) (fun _ => ?_) (fun h => absurd h (by omega))
    refine ⟨fun h => absurd h (by decide), fun _ => ?_⟩
    refine (a_sack (w := 3) hT hR hk (by omega)).use ?_
    rw [prN] at rest
    refine ⟨fun h0 => ?_, fun h0 => ?_⟩
    · rw [decide_eq_true h0, cond_true] at rest
      refine (a_sack (w := 1) hT hR hk (by omega)).use ?_
      refine de_if (fun h2 => ?_) (fun h2 => ?_)
      · rw [show decide (bearN N i < loadN N (Int32.ofNat i) S + N (63 + 8 * k + 1)) = true from h2] at rest
        exact rest
      · rw [show decide (bearN N i < loadN N (Int32.ofNat i) S + N (63 + 8 * k + 1)) = false from h2] at rest
        exact rest
    · rw [decide_eq_false h0, cond_false] at rest
      exact rest
/-- level, tilted, sums, depth, rest -/
theorem mu_3 {i : Nat} (hT : TrN M 12 N m S t) (hR : rOk N m S t) (hi : i < m) (h : GoP RO (d + 9) 358 [.ref 0, .int (allV N S (i + 1)), .int (allL N S (i + 1)), .int (enc (tiltedI N S (i + 1))), .int 1, .int (Int32.ofNat i), .int (wOn N (Int32.ofNat i) 0 S), .int (wOn N (Int32.ofNat i) 1 S), .int (sOn N (Int32.ofNat i) S), .int (vOn N (Int32.ofNat i) S), .int (bearN N i), .int (enc (bestI N i S S)), .int (zb (!decide (N 0 < absB (wOn N (Int32.ofNat i) 0 S - wOn N (Int32.ofNat i) 1 S)))), .int (Int32.ofNat (deepN N i S 9)), .int (N (15 + 8 * i + 1)), .int (freshN N i)] [] (gW 143 (.inl (1, 1) :: X)) M 456 0 0 Q) (L13 L14 L15 : Value) : GoP RO (d + 9) 358 [.ref 0, .int (allV N S i), .int (allL N S i), .int (enc (tiltedI N S i)), .int 1, .int (Int32.ofNat i), .int (wOn N (Int32.ofNat i) 0 S), .int (wOn N (Int32.ofNat i) 1 S), .int (sOn N (Int32.ofNat i) S), .int (vOn N (Int32.ofNat i) S), .int (bearN N i), .int (enc (bestI N i S S)), .int (Int32.ofNat S), L13, L14, L15] [] (gW 143 (.inl (1, 1) :: X)) M 348 0 0 Q := by
  have hm := hR.1.1.2.2.2.1
  have hS := hR.1.1.2.2.2.2.1
  have r454 : ∀ L15, GoP RO (d + 9) 358 [.ref 0, .int (allV N S (i + 1)), .int (allL N S (i + 1)), .int (enc (tiltedI N S (i + 1))), .int 1, .int (Int32.ofNat i), .int (wOn N (Int32.ofNat i) 0 S), .int (wOn N (Int32.ofNat i) 1 S), .int (sOn N (Int32.ofNat i) S), .int (vOn N (Int32.ofNat i) S), .int (bearN N i), .int (enc (bestI N i S S)), .int (zb (!decide (N 0 < absB (wOn N (Int32.ofNat i) 0 S - wOn N (Int32.ofNat i) 1 S)))), .int (Int32.ofNat (deepN N i S 9)), .int (N (15 + 8 * i + 1)), L15] [.int (freshN N i)] (gW 143 (.inl (1, 1) :: X)) M 454 0 0 Q := by
    intro L15
    refine wp_sound [456] 20 _ _ _ _ _ _ _ ?_
    exact h
  have r387 : ∀ L13 L14 L15, GoP RO (d + 9) 358 [.ref 0, .int (allV N S i), .int (allL N S i), .int (enc (tiltedI N S (i + 1))), .int 1, .int (Int32.ofNat i), .int (wOn N (Int32.ofNat i) 0 S), .int (wOn N (Int32.ofNat i) 1 S), .int (sOn N (Int32.ofNat i) S), .int (vOn N (Int32.ofNat i) S), .int (bearN N i), .int (enc (bestI N i S S)), .int (zb (!decide (N 0 < absB (wOn N (Int32.ofNat i) 0 S - wOn N (Int32.ofNat i) 1 S)))), L13, L14, L15] [] (gW 143 (.inl (1, 1) :: X)) M 387 0 0 Q := by
    intro L13 L14 L15
    refine wp_sound [454] 60 _ _ _ _ _ _ _ ?_
    refine (a_deep hT hR hi).use ?_
    refine (a_m1 hT hR hi).use ?_
    have r := r454 L15
    rw [freshN] at r
    refine ⟨fun h0 => ?_, fun h0 => ?_⟩
    · rw [decide_eq_true h0] at r
      exact r
    · rw [decide_eq_false h0, cond_false] at r
      refine (a_setting (k := 1) hT (by omega)).use ?_
      refine ⟨fun h1 => ?_, fun h1 => ?_⟩
      · rw [decide_eq_true h1] at r
        exact r
      · rw [decide_eq_false h1, cond_false] at r
        refine (a_setting (k := 1) hT (by omega)).use ?_
        refine (a_setting (k := 1) hT (by omega)).use ?_
        exact ⟨h1, r⟩
  clear h r454
  refine wp_sound [387] 60 _ _ _ _ _ _ _ ?_
  refine (a_setting (k := 0) hT (by omega)).use ?_
  rw [abs_eq]
  refine de_if (fun h2 => ?_) (fun h2 => ?_)
  · have r := r387 L13 L14 L15
    rw [h2] at r
    cases hb : tiltedI N S i with
    | none =>
      rw [show tiltedI N S (i + 1) = some i from (pick_next hb).trans (by show (bif decide (N 0 < absB (wOn N (Int32.ofNat i) 0 S - wOn N (Int32.ofNat i) 1 S)) then some i else none) = _; rw [h2]; rfl)] at r
      refine ⟨fun _ => ?_, fun h => absurd (show ((-1 : Int32) < 0) by decide) h⟩
      refine ⟨fun _ => ?_, fun h => absurd rfl h⟩
      exact r
    | some a =>
      have ha := (pick_lt hb).1
      rw [show tiltedI N S (i + 1) = some a from pick_stays hb (i + 1) (by omega)] at r
      refine nn_if (a := a) rfl (by omega) ?_
      exact r
  · have r := r387 L13 L14 L15
    rw [h2] at r
    cases hb : tiltedI N S i with
    | none =>
      rw [show tiltedI N S (i + 1) = none from (pick_next hb).trans (by show (bif decide (N 0 < absB (wOn N (Int32.ofNat i) 0 S - wOn N (Int32.ofNat i) 1 S)) then some i else none) = _; rw [h2]; rfl)] at r
      refine ⟨fun _ => ?_, fun h => absurd (show ((-1 : Int32) < 0) by decide) h⟩
      refine ⟨fun h => absurd h (by decide), fun _ => ?_⟩
      exact r
    | some a =>
      have ha := (pick_lt hb).1
      rw [show tiltedI N S (i + 1) = some a from pick_stays hb (i + 1) (by omega)] at r
      refine nn_if (a := a) rfl (by omega) ?_
      exact r
theorem vfb64_nn {r : UInt64} (h : vfb64 r = true) : FP.Core.dIsNaN r = false := by
  cases hb : FP.Core.dIsNaN r with
  | false => rfl
  | true =>
    have h1 := (FP.Core.isNaN_bits r).mp hb
    have h2 : r &&& 0x7fffffffffffffff ≤ 0x7ff0000000000000 := of_decide_eq_true h
    rw [UInt64.le_iff_toNat_le, UInt64.toNat_and] at h2
    have h3 : r.toNat &&& (2 ^ 63 - 1) ≤ 9218868437227405312 := h2
    rw [Nat.and_two_pow_sub_one_eq_mod] at h3
    exact absurd h1 (Nat.not_lt.mpr h3)
theorem vfb32_nn {r : UInt32} (h : vfb32 r = true) : FP.Core.fIsNaN r = false := by
  cases hb : FP.Core.fIsNaN r with
  | false => rfl
  | true =>
    have h1 := (FP.Core.isNaN_bits32 r).mp hb
    have h2 : r &&& 0x7fffffff ≤ 0x7f800000 := of_decide_eq_true h
    rw [UInt32.le_iff_toNat_le, UInt32.toNat_and] at h2
    have h3 : r.toNat &&& (2 ^ 31 - 1) ≤ 2139095040 := h2
    rw [Nat.and_two_pow_sub_one_eq_mod] at h3
    exact absurd h1 (Nat.not_lt.mpr h3)
theorem dcmp_0 {r : UInt64} (h : vfb64 r = true) (op : CmpOp) : Op.cmpValue (FP.dcmp r r) op = 0 := by
  have h1 : FP.dcmp r r = some .eq := FP.Core.dcmp_refl (vfb64_nn h)
  rw [h1]; rfl
theorem fcmp_0 {r : UInt32} (h : vfb32 r = true) (op : CmpOp) : Op.cmpValue (FP.fcmp r r) op = 0 := by
  have h1 : FP.fcmp r r = some .eq := FP.Core.fcmp_refl (vfb32_nn h)
  rw [h1]; rfl
theorem zb_01 (b : Bool) : zb b = 0 ∨ zb b = 1 := by cases b <;> decide
theorem FrQ.Tr {M M' : mM} {N : Nat → Int32} {m S t : Nat} (h : FrQ M M') (hT : TrN M 12 N m S t) : TrN M' 12 N m S t := TrN_fr hT (fun q h1 h2 => h.1 q (by omega) (by omega))
theorem FrQ.wid {M M' : mM} (h : FrQ M M') (hw : widOk M 40) : widOk M' 40 := ⟨h.2.1.trans hw.1, h.2.2.1.trans hw.2.1, h.2.2.2.trans hw.2.2⟩
/-- the checks of a mule -/
theorem mu_4 {i : Nat} {b1 b2 b3 : Int32} (hT : TrN M 12 N m S t) (hR : rOk N m S t) (hv : vOk N S) (hw : widOk M 40) (hi : i < m) (h : ∀ M' L15, FrQ M M' → GoP RO (d + 9) 358 [.ref 0, .int b1, .int b2, .int b3, .int 1, .int (Int32.ofNat (i + 1)), .int (wOn N (Int32.ofNat i) 0 S), .int (wOn N (Int32.ofNat i) 1 S), .int (sOn N (Int32.ofNat i) S), .int (vOn N (Int32.ofNat i) S), .int (bearN N i), .int (enc (bestI N i S S)), .int (zb (!decide (N 0 < absB (wOn N (Int32.ofNat i) 0 S - wOn N (Int32.ofNat i) 1 S)))), .int (Int32.ofNat (deepN N i S 9)), .int (N (15 + 8 * i + 1)), L15] [] (gW 143 (.inl (1, 1) :: X)) M' 23 0 0 Q) : GoP RO (d + 9) 358 [.ref 0, .int b1, .int b2, .int b3, .int 1, .int (Int32.ofNat i), .int (wOn N (Int32.ofNat i) 0 S), .int (wOn N (Int32.ofNat i) 1 S), .int (sOn N (Int32.ofNat i) S), .int (vOn N (Int32.ofNat i) S), .int (bearN N i), .int (enc (bestI N i S S)), .int (zb (!decide (N 0 < absB (wOn N (Int32.ofNat i) 0 S - wOn N (Int32.ofNat i) 1 S)))), .int (Int32.ofNat (deepN N i S 9)), .int (N (15 + 8 * i + 1)), .int (freshN N i)] [] (gW 143 (.inl (1, 1) :: X)) M 456 0 0 Q := by
  have hm := hR.1.1.2.2.2.1
  have hS := hR.1.1.2.2.2.2.1
  obtain ⟨a, c, l1, l2, l3, l4⟩ := hR.2.2.1 i hi
  have hle : ¬ bearN N i < loadN N (Int32.ofNat i) S := by rw [l1, l2, i_lt (by omega) (by omega)]; omega
  have hle' : ¬ bearN N i < wOn N (Int32.ofNat i) 0 S + wOn N (Int32.ofNat i) 1 S := hle
  obtain ⟨q1, q2, q3⟩ := deep_spec (N := N) (i := i) (S := S) 9
  obtain ⟨bw0, bw1⟩ := best_low hR hv hi
  -- behind the best worth
  have r725 : ∀ M1, FrQ M M1 → GoP RO (d + 9) 358 [.ref 0, .int b1, .int b2, .int b3, .int 1, .int (Int32.ofNat i), .int (wOn N (Int32.ofNat i) 0 S), .int (wOn N (Int32.ofNat i) 1 S), .int (sOn N (Int32.ofNat i) S), .int (vOn N (Int32.ofNat i) S), .int (bearN N i), .int (enc (bestI N i S S)), .int (zb (!decide (N 0 < absB (wOn N (Int32.ofNat i) 0 S - wOn N (Int32.ofNat i) 1 S)))), .int (Int32.ofNat (deepN N i S 9)), .int (N (15 + 8 * i + 1)), .int (freshN N i)] [] (gW 143 (.inl (1, 1) :: X)) M1 725 0 0 Q := by
    intro M1 f1
    refine wp_sound [23] 30 _ _ _ _ _ _ _ ?_
    by_cases h0 : 0 < sOn N (Int32.ofNat i) S
    · refine ⟨fun _ => ?_, fun h => absurd h0 h⟩
      refine GoP.eq2 (h M1 (.int (freshN N i)) f1) ?_ rfl
      rw [i_inc]
    · refine ⟨fun h => absurd h h0, fun _ => ?_⟩
      have hc : cntN N (Int32.ofNat i) S = 0 := by
        rw [sOn_cnt S] at h0
        have := cntN_le (N := N) (m := Int32.ofNat i) S
        have h9 : ¬ Int32.ofNat 0 < Int32.ofNat (cntN N (Int32.ofNat i) S) := h0
        rw [i_lt (by omega) (by omega)] at h9
        omega
      refine a_tired (f1.Tr hT) hR (f1.wid hw) hi (fun M2 f2 => ?_)
      rw [trip_tired hS hm hi (cntN_zero S hc)]
      refine ⟨fun _ => ?_, fun h => absurd rfl h⟩
      refine GoP.eq2 (h M2 (.int (freshN N i)) (f1.trans f2)) ?_ rfl
      rw [i_inc]
  have r696 : ∀ M1, FrQ M M1 → GoP RO (d + 9) 358 [.ref 0, .int b1, .int b2, .int b3, .int 1, .int (Int32.ofNat i), .int (wOn N (Int32.ofNat i) 0 S), .int (wOn N (Int32.ofNat i) 1 S), .int (sOn N (Int32.ofNat i) S), .int (vOn N (Int32.ofNat i) S), .int (bearN N i), .int (enc (bestI N i S S)), .int (zb (!decide (N 0 < absB (wOn N (Int32.ofNat i) 0 S - wOn N (Int32.ofNat i) 1 S)))), .int (Int32.ofNat (deepN N i S 9)), .int (N (15 + 8 * i + 1)), .int (freshN N i)] [] (gW 143 (.inl (1, 1) :: X)) M1 696 0 0 Q := by
    intro M1 f1
    refine wp_sound [725] 40 _ _ _ _ _ _ _ ?_
    refine (q_filled (f1.Tr hT) hR.1 hi).use ?_
    refine ⟨fun h0 => ?_, fun h0 => ?_⟩
    · rw [filN, decide_eq_true h0, cond_true]
      refine ⟨fun _ => ?_, fun h => absurd (by decide +kernel) h⟩
      exact r725 M1 f1
    · refine ⟨fdiv_ok h0, ?_⟩
      have hf : filN N i S = FP.fdiv (FP.i2f (wOn N (Int32.ofNat i) 0 S + wOn N (Int32.ofNat i) 1 S)) (FP.i2f (bearN N i)) := by rw [filN, decide_eq_false h0, cond_false]; rfl
      rw [hf]
      refine ⟨fun _ => ?_, fun h => absurd (fcmp_0 (fdiv_ok h0) _) h⟩
      exact r725 M1 f1
  have r614 : ∀ M1, FrQ M M1 → GoP RO (d + 9) 358 [.ref 0, .int b1, .int b2, .int b3, .int 1, .int (Int32.ofNat i), .int (wOn N (Int32.ofNat i) 0 S), .int (wOn N (Int32.ofNat i) 1 S), .int (sOn N (Int32.ofNat i) S), .int (vOn N (Int32.ofNat i) S), .int (bearN N i), .int (enc (bestI N i S S)), .int (zb (!decide (N 0 < absB (wOn N (Int32.ofNat i) 0 S - wOn N (Int32.ofNat i) 1 S)))), .int (Int32.ofNat (deepN N i S 9)), .int (N (15 + 8 * i + 1)), .int (freshN N i)] [] (gW 143 (.inl (1, 1) :: X)) M1 614 0 0 Q := by
    intro M1 f1
    have r646 : GoP RO (d + 9) 358 [.ref 0, .int b1, .int b2, .int b3, .int 1, .int (Int32.ofNat i), .int (wOn N (Int32.ofNat i) 0 S), .int (wOn N (Int32.ofNat i) 1 S), .int (sOn N (Int32.ofNat i) S), .int (vOn N (Int32.ofNat i) S), .int (bearN N i), .int (enc (bestI N i S S)), .int (zb (!decide (N 0 < absB (wOn N (Int32.ofNat i) 0 S - wOn N (Int32.ofNat i) 1 S)))), .int (Int32.ofNat (deepN N i S 9)), .int (N (15 + 8 * i + 1)), .int (freshN N i)] [] (gW 143 (.inl (1, 1) :: X)) M1 635 0 0 Q := by
      have r670 : GoP RO (d + 9) 358 [.ref 0, .int b1, .int b2, .int b3, .int 1, .int (Int32.ofNat i), .int (wOn N (Int32.ofNat i) 0 S), .int (wOn N (Int32.ofNat i) 1 S), .int (sOn N (Int32.ofNat i) S), .int (vOn N (Int32.ofNat i) S), .int (bearN N i), .int (enc (bestI N i S S)), .int (zb (!decide (N 0 < absB (wOn N (Int32.ofNat i) 0 S - wOn N (Int32.ofNat i) 1 S)))), .int (Int32.ofNat (deepN N i S 9)), .int (N (15 + 8 * i + 1)), .int (freshN N i)] [] (gW 143 (.inl (1, 1) :: X)) M1 670 0 0 Q := by
        refine wp_sound [696] 40 _ _ _ _ _ _ _ ?_
        refine eq_if (a := deepN N i S 9) (b := 9) rfl rfl (by omega) (by omega) (fun _ => r696 M1 f1) (fun hne => ?_)
        have h9 := q3 (by omega)
        have e9 : (9 : Int32) - Int32.ofNat (deepN N i S 9) = 10 - Int32.ofNat (deepN N i S 9 + 1) := by
          rw [show (9 : Int32) = Int32.ofNat 9 from rfl, show (10 : Int32) = Int32.ofNat 10 from rfl, i_sub (by omega), i_sub (by omega)]
          exact congrArg Int32.ofNat (by omega)
        refine ⟨by decide, ?_⟩
        refine ⟨fun _ => r696 M1 f1, fun h => absurd ?_ h⟩
        rw [e9]; exact h9
      refine wp_sound [670] 40 _ _ _ _ _ _ _ ?_
      refine (a_fresh (f1.Tr hT) hR hi).use ?_
      refine ⟨fun _ => ?_, fun h => absurd rfl h⟩
      refine eq_if (a := deepN N i S 9) (b := 0) rfl rfl (by omega) (by omega) (fun _ => r670) (fun hne => ?_)
      have h9 := q2 hne
      refine ⟨by decide, ?_⟩
      exact ⟨fun h => absurd h h9, fun _ => r670⟩
    refine wp_sound [635] 40 _ _ _ _ _ _ _ ?_
    refine (a_light (f1.Tr hT) hR hi).use ?_
    rw [lightN]
    refine ⟨fun h0 => ?_, fun h0 => ?_⟩
    · rw [decide_eq_true h0]
      exact ⟨fun _ => r646, fun h => absurd rfl h⟩
    · rw [decide_eq_false h0]
      exact ⟨fun _ => r646, fun h => absurd rfl h⟩
  have r557 : GoP RO (d + 9) 358 [.ref 0, .int b1, .int b2, .int b3, .int 1, .int (Int32.ofNat i), .int (wOn N (Int32.ofNat i) 0 S), .int (wOn N (Int32.ofNat i) 1 S), .int (sOn N (Int32.ofNat i) S), .int (vOn N (Int32.ofNat i) S), .int (bearN N i), .int (enc (bestI N i S S)), .int (zb (!decide (N 0 < absB (wOn N (Int32.ofNat i) 0 S - wOn N (Int32.ofNat i) 1 S)))), .int (Int32.ofNat (deepN N i S 9)), .int (N (15 + 8 * i + 1)), .int (freshN N i)] [] (gW 143 (.inl (1, 1) :: X)) M 557 0 0 Q := by
    refine wp_sound [614] 60 _ _ _ _ _ _ _ ?_
    refine (a_m8 hT hR hi).use ?_
    refine ⟨fun _ => ?_, fun h => absurd rfl h⟩
    refine (a_best hT hR hi).use ?_
    refine ⟨fun _ => ?_, fun h => absurd rfl h⟩
    cases hb : bestI N i S S with
    | none =>
      refine ⟨fun _ => ?_, fun h => absurd (show ((-1 : Int32) < 0) by decide) h⟩
      refine a_bestW hT hR hi (fun M1 f1 => ?_)
      rw [bw0 hb]
      refine ⟨fun _ => ?_, fun h => absurd rfl h⟩
      have r := r614 M1 f1
      rw [hb] at r
      exact r
    | some b =>
      have hbk := (pick_lt hb).1
      obtain ⟨x, v, x1, x2, x3, x4⟩ := bw1 b hb
      refine nn_if (a := b) rfl (by omega) ?_
      refine a_bestW hT hR hi (fun M1 f1 => ?_)
      rw [x1]
      refine (a_sack (i := b) (w := 2) (f1.Tr hT) hR hbk (by omega)).use ?_
      rw [x2]
      refine lt_if (a := x) (b := v) rfl rfl (by omega) (by omega) (fun h => absurd h (by omega)) (fun _ => ?_)
      have r := r614 M1 f1
      rw [hb] at r
      exact r
  clear h r725 r696 r614
  refine wp_sound [557] 90 _ _ _ _ _ _ _ ?_
  refine ⟨fun h => absurd h (by decide), fun _ => ?_⟩
  refine (a_m2 hT hR hi).use ?_
  refine ⟨fun _ => ?_, fun h => absurd rfl h⟩
  refine (a_m3 hT hR hi).use ?_
  refine ⟨fun _ => ?_, fun h => absurd rfl h⟩
  refine ⟨fun h => absurd h hle', fun _ => ?_⟩
  refine (a_m4 hT hR hi).use ?_
  refine ⟨fun _ => ?_, fun h => absurd rfl h⟩
  refine (a_m5 hT hR hi).use ?_
  refine ⟨fun _ => ?_, fun h => absurd rfl h⟩
  refine (a_m6 hT hR hi).use ?_
  refine ⟨fun _ => ?_, fun h => absurd rfl h⟩
  refine (a_m7 hT hR hi).use ?_
  rcases zb_01 (!decide (N 0 < absB (wOn N (Int32.ofNat i) 0 S - wOn N (Int32.ofNat i) 1 S))) with hz | hz
  · refine ⟨fun h => absurd (hz.symm.trans h) (by decide), fun _ => ?_⟩
    exact ⟨fun _ => r557, fun h => absurd hz.symm h⟩
  · refine ⟨fun _ => ?_, fun h => absurd hz h⟩
    exact ⟨fun _ => r557, fun h => absurd hz.symm h⟩
theorem c_mules (hT : TrN M 12 N m S t) (hR : rOk N m S t) (hv : vOk N S) (hw : widOk M 40) (hQ : ∀ M', FrQ M M' → Q (.inl (some (.int 1))) (gW 143 (.inl (1, 1) :: X)) M' 0 0) : EvP RO (d + 10) 358 [.ref 0] (gW 143 (.inl (1, 1) :: X)) M Q := by
  have hm := hR.1.1.2.2.2.1
  have hS := hR.1.1.2.2.2.2.1
  have hg := fun d => c_gap (RO := RO) (d := d) (sb := 143) (ext := .inl (1, 1) :: X) hT hR.1 hR.2.1
  rw [gap_zero hR hv] at hg
  refine EvP.wp [23] 60 rfl ?_
  refine (hg _).use ?_
  refine ⟨fun _ => ?_, fun h => absurd rfl h⟩
  refine up_ind (S := m) (H := fun i => ∀ M1 L6 L7 L8 L9 L10 L11 L12 L13 L14 L15, FrQ M M1 → GoP RO (d + 9) 358 [.ref 0, .int (allV N S i), .int (allL N S i), .int (enc (tiltedI N S i)), .int 1, .int (Int32.ofNat i), L6, L7, L8, L9, L10, L11, L12, L13, L14, L15] [] (gW 143 (.inl (1, 1) :: X)) M1 23 0 0 Q) ?_ (fun i hi ih => ?_) 0 (by omega) M _ _ _ _ _ _ _ _ _ _ FrQ.refl
  · intro M1 L6 L7 L8 L9 L10 L11 L12 L13 L14 L15 f1
    have hT1 := f1.Tr hT
    have r811 : ∀ L5, GoP RO (d + 9) 358 [.ref 0, .int (allV N S m), .int (allL N S m), .int (enc (tiltedI N S m)), .int 1, L5, L6, L7, L8, L9, L10, L11, L12, L13, L14, L15] [] (gW 143 (.inl (1, 1) :: X)) M1 811 0 0 Q := by
      intro L5
      refine wp_sound [] 40 _ _ _ _ _ _ _ ?_
      refine (c_worthOfLoads hT1 hR.1).use ?_
      refine ⟨fun h0 => ?_, fun h0 => ?_⟩
      · rw [wolN, decide_eq_true h0, cond_true]
        refine ⟨fun _ => ⟨by decide +kernel, hQ M1 f1⟩, fun h => absurd (by decide +kernel) h⟩
      · have hf : wolN N m S = FP.ddiv (FP.i2d (allV N S m)) (FP.i2d (allL N S m)) := by rw [wolN, decide_eq_false h0, cond_false]
        refine ⟨ddiv_ok h0, ?_⟩
        rw [hf]
        refine ⟨fun _ => ⟨by decide +kernel, hQ M1 f1⟩, fun h => absurd (dcmp_0 (ddiv_ok h0) _) h⟩
    have r775 : ∀ L5, GoP RO (d + 9) 358 [.ref 0, .int (allV N S m), .int (allL N S m), .int (enc (tiltedI N S m)), .int 1, L5, L6, L7, L8, L9, L10, L11, L12, L13, L14, L15] [.int (whyN N m S)] (gW 143 (.inl (1, 1) :: X)) M1 775 0 0 Q := by
      intro L5
      refine wp_sound [811] 60 _ _ _ _ _ _ _ ?_
      refine ⟨fun h => absurd h (by decide), fun _ => ?_⟩
      refine (a_why0 hT1 hR).use ?_
      refine ⟨fun _ => ?_, fun h => absurd rfl h⟩
      refine (a_why1 hT1 hR).use ?_
      refine ⟨fun h2 => ?_, fun h2 => ?_⟩
      · rw [decide_eq_true h2, cond_true]
        exact ⟨fun _ => r811 _, fun h => absurd rfl h⟩
      · rw [decide_eq_false h2, cond_false]
        exact ⟨fun _ => r811 _, fun h => absurd rfl h⟩
    refine wp_sound [754] 30 _ _ _ _ _ _ _ ?_
    refine (a_v0 hT1).use ?_
    refine lt_if (a := m) (b := m) rfl rfl (by omega) (by omega) (fun h => absurd h (by omega)) (fun _ => ?_)
    refine wp_sound [775] 40 _ _ _ _ _ _ _ ?_
    refine (a_v3 hT1).use ?_
    have hp := plC_le (N := N) (x := 1) S
    have r := r775 (.int (Int32.ofNat m))
    rw [whyN, packed_zero] at r
    refine eq_if (a := plC N 1 S) (b := 0) rfl rfl (by omega) (by omega) (fun h0 => ?_) (fun h0 => ?_)
    · rw [decide_eq_true h0] at r
      exact r
    · rw [decide_eq_false h0] at r
      cases hb : tiltedI N S m with
      | none =>
        rw [hb] at r
        refine ⟨fun _ => r, fun h => absurd (show ((-1 : Int32) < 0) by decide) h⟩
      | some a =>
        have ha := (pick_lt hb).1
        rw [hb] at r
        exact nn_if (a := a) rfl (by omega) r
  · intro M1 L6 L7 L8 L9 L10 L11 L12 L13 L14 L15 f1
    have hT1 := f1.Tr hT
    refine wp_sound [79] 60 _ _ _ _ _ _ _ ?_
    refine (a_v0 hT1).use ?_
    refine lt_if (a := i) (b := m) rfl rfl (by omega) (by omega) (fun _ => ?_) (fun h => absurd h (by omega))
    refine ⟨fun h => absurd h (by decide), fun _ => ?_⟩
    refine (a_m0 hT1 hR hi).use ?_
    refine (a_m1 hT1 hR hi).use ?_
    refine ⟨by decide, ?_⟩
    refine mu_1 hT1 hR hi (fun L13 => mu_2 hT1 hR hi (fun L13 => mu_3 hT1 hR hi (mu_4 hT1 hR hv (f1.wid hw) hi (fun M2 L15 f2 => ih M2 _ _ _ _ _ _ _ _ _ L15 (f1.trans f2))) L13 _ _) _ L13) L13
end MUL
