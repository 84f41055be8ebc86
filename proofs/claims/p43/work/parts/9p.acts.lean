/-! what the law does: trips, rests, new sacks, stages -/
section ACTB
variable {RO : List mE} {d : Nat} {X : List sh} {M : mM} {Q : mQ} {m S t nx c D : Nat} {N : Nat → Int32}
theorem fateV_is {T : Nat → Int32} {k : Nat} (h : N (63 + 8 * k + 3) = 1) (hT : T (63 + 8 * k + 3) = 2 ∨ T (63 + 8 * k + 3) = 3) : (T (63 + 8 * k + 3) = 3 ∧ fateV N T k = 3) ∨ (T (63 + 8 * k + 3) = 2 ∧ T (63 + 8 * k + 2) < N (63 + 8 * k + 2) ∧ fateV N T k = 2) ∨ (T (63 + 8 * k + 3) = 2 ∧ ¬ T (63 + 8 * k + 2) < N (63 + 8 * k + 2) ∧ fateV N T k = 1) := by
  rw [fateV, if_pos h]
  rcases hT with h2 | h3
  · rw [h2, if_neg (by decide)]
    by_cases h4 : T (63 + 8 * k + 2) < N (63 + 8 * k + 2)
    · rw [if_pos h4]; exact Or.inr (Or.inl ⟨rfl, h4, rfl⟩)
    · rw [if_neg h4]; exact Or.inr (Or.inr ⟨rfl, h4, rfl⟩)
  · rw [h3, if_pos rfl]; exact Or.inl ⟨rfl, rfl⟩
theorem trip_6 {G0 : Nat → Int32} (hm : m ≤ 6) (hS : S ≤ 16) : trN G0 N m S t 6 = N 6 + 1 := by
  unfold trN tripsN
  rw [endN, upd_at, countN, upd_ne (by omega), payN_at (by omega) (by omega), delN_at (by omega) S hS, wayN_at hS hm (Or.inl (by omega))]
theorem rest_6 {n : Nat} (hD : N 6 = Int32.ofNat D) : restN m N n 6 = Int32.ofNat (D + n) := by
  rw [restN_6, hD, i_add]
theorem act_5 {i k : Nat} {p : Int32} (hT : TrN M 12 N m S t) (hR : rOk N m S t) (hv : vOk N S) (hw : widOk M 40) (hH : I_his M nx c) (hD : N 6 = Int32.ofNat D) (hD9 : D ≤ 9900) (hi : i < m) (hA : AQ Q (gW 143 (.inl (1, 1) :: X)) M N m S t D) (hk : S = 0 ∧ k = 0 ∧ p = -1 ∨ 0 < S ∧ k < S ∧ p = N (63 + 8 * k + 3)) : GoP RO (d + 9) 353 [.ref 0, .ref 145, .int (Int32.ofNat m), .int (Int32.ofNat S), .int (Int32.ofNat t), .int (Int32.ofNat i), .int (Int32.ofNat k), .int p, .retAddr 0, .retAddr 0, .retAddr 0, .retAddr 0, .retAddr 0, .retAddr 0, .retAddr 0, .retAddr 0, .retAddr 0, .retAddr 0, .retAddr 0, .retAddr 0, .retAddr 0, .retAddr 0, .retAddr 0, .retAddr 0, .retAddr 0, .retAddr 0, .retAddr 0, .retAddr 0, .retAddr 0] [] (gW 143 (.inl (1, 1) :: X)) M 504 0 0 Q := by
  have hm := hR.1.1.2.2.2.1
  have hS := hR.1.1.2.2.2.2.1
  have ht := hR.1.1.2.2.2.2.2.1
  have hDD : ¬ N 6 = 9999 := fun h => by
    rw [hD] at h
    have := i_inj (by omega) (by omega) (h.trans (show (9999 : Int32) = Int32.ofNat 9999 from rfl))
    omega
  have hu : u_trip N (trN (fun _ => 0) N m S t) m S = if whyN N m S = 0 then (0, trN (fun _ => 0) N m S t 7 - N 7) else (1, 0) := by
    rw [u_trip, if_neg hDD]
  obtain ⟨v1, v2, v3⟩ := trip_v (G0 := fun _ => 0) hR hv
  -- behind the questions
  have r558 : ∀ (M1 : mM) (b19 b20 : Int32), FrL M M1 → (S = 0 ∧ b19 = 0 ∧ b20 = 0 ∨ 0 < S ∧ k < S ∧ b19 = fateV N (trN (fun _ => 0) N m S t) k ∧ b20 = N (63 + 8 * k + 2)) → GoP RO (d + 9) 353 [.ref 0, .ref 145, .int (Int32.ofNat m), .int (Int32.ofNat S), .int (Int32.ofNat t), .int (Int32.ofNat i), .int (Int32.ofNat k), .int p, .retAddr 0, .retAddr 0, .retAddr 0, .retAddr 0, .retAddr 0, .retAddr 0, .retAddr 0, .retAddr 0, .retAddr 0, .int (whyN N m S), .int (trN (fun _ => 0) N m S t 7 - N 7), .int b19, .int b20, .int (trN (fun _ => 0) N m S t (15 + 8 * i + 1)), .retAddr 0, .retAddr 0, .retAddr 0, .retAddr 0, .retAddr 0, .retAddr 0, .retAddr 0] [] (gW 143 (.inl (1, 1) :: X)) M1 558 0 0 Q := by
    intro M1 b19 b20 f1 hb
    refine wp_sound [] 150 _ _ _ _ _ _ _ ?_
    refine (a_count (k := 0) (f1.Tr hT) (by omega)).use ?_
    by_cases h9 : whyN N m S = 0
    · rw [if_pos h9] at hu
      refine w_went (G0 := fun _ => 0) (f1.Tr hT) hR (f1.his hH) (wCh.yes hu (fun M2 t2 f2 => ?_))
      have hR2 := rOk_trip (G0 := fun _ => 0) hR hD (by omega)
      have hE : actE M1 M2 N m S t (trN (fun _ => 0) N m S t) S t D := act_done (f1.Tr hT) (f1.wid hw) (f1.his hH) f2 t2 hR2 v1 ⟨D + 1, by rw [trip_6 hm hS, hD]; exact i_add D 1, by omega⟩
      refine ⟨fun _ => ?_, fun h => absurd h9 h⟩
      refine ⟨fun _ => ?_, fun h => absurd rfl h⟩
      refine (a_m1 t2 hR2 hi).use ?_
      refine ⟨fun _ => ?_, fun h => absurd rfl h⟩
      refine (a_count (k := 0) t2 (by omega)).use ?_
      refine ⟨fun _ => ?_, fun h => absurd v2 h⟩
      refine (a_v3 t2).use ?_
      rw [plC_none S (fun k hk => (v3 k hk).1)]
      refine ⟨fun _ => ?_, fun h => absurd (by decide) h⟩
      generalize hTT : trN (fun _ => 0) N m S t = TT at *
      rcases hb with ⟨h0, hb1, hb2⟩ | ⟨h0, hk, hb1, hb2⟩
      · subst hb1
        refine ⟨fun h => absurd h (by decide), fun _ => ?_⟩
        refine ⟨fun h => absurd h (by decide), fun _ => ?_⟩
        refine ⟨fun h => absurd h (by decide), fun _ => ?_⟩
        exact ⟨by decide +kernel, hA.L f1 _ _ _ _ _ _ hE (by omega) (by omega)⟩
      · obtain ⟨_, w2, w3, v, v', w4, w5, w6, w7⟩ := v3 k hk
        by_cases h1 : N (63 + 8 * k + 3) = 1
        · rcases fateV_is h1 (w2 h1) with ⟨y1, y2⟩ | ⟨y1, y2, y3⟩ | ⟨y1, y2, y3⟩
          · rw [hb1, y2]
            refine ⟨fun h => absurd h (by decide), fun _ => ?_⟩
            refine ⟨fun h => absurd h (by decide), fun _ => ?_⟩
            refine ⟨fun _ => ?_, fun h => absurd (by decide) h⟩
            refine (a_sack (w := 3) t2 hR2 hk (by omega)).use ?_
            rw [y1]
            refine ⟨fun _ => ?_, fun h => absurd (by decide) h⟩
            exact ⟨by decide +kernel, hA.L f1 _ _ _ _ _ _ hE (by omega) (by omega)⟩
          · rw [hb1, y3]
            refine ⟨fun h => absurd h (by decide), fun _ => ?_⟩
            refine ⟨fun _ => ?_, fun h => absurd (by decide) h⟩
            refine (a_sack (w := 3) t2 hR2 hk (by omega)).use ?_
            rw [y1]
            refine ⟨fun _ => ?_, fun h => absurd (by decide) h⟩
            refine (a_sack (w := 2) t2 hR2 hk (by omega)).use ?_
            rw [hb2]
            refine ⟨fun _ => ?_, fun h => absurd y2 h⟩
            refine ⟨fun h => absurd h (by decide), fun _ => ?_⟩
            exact ⟨by decide +kernel, hA.L f1 _ _ _ _ _ _ hE (by omega) (by omega)⟩
          · rw [hb1, y3]
            refine ⟨fun _ => ?_, fun h => absurd (by decide) h⟩
            refine (a_sack (w := 3) t2 hR2 hk (by omega)).use ?_
            rw [y1]
            refine ⟨fun _ => ?_, fun h => absurd (by decide) h⟩
            refine (a_sack (w := 2) t2 hR2 hk (by omega)).use ?_
            rw [hb2]
            have e : TT (63 + 8 * k + 2) = N (63 + 8 * k + 2) := by
              rw [w4, w5] at y2 ⊢
              rw [i_lt (by omega) (by omega)] at y2
              exact congrArg Int32.ofNat (by omega)
            refine ⟨fun _ => ?_, fun h => absurd e h⟩
            refine ⟨fun h => absurd h (by decide), fun _ => ?_⟩
            refine ⟨fun h => absurd h (by decide), fun _ => ?_⟩
            exact ⟨by decide +kernel, hA.L f1 _ _ _ _ _ _ hE (by omega) (by omega)⟩
        · have y3 : fateV N TT k = 0 := fate_0 h1
          rw [hb1, y3]
          refine ⟨fun h => absurd h (by decide), fun _ => ?_⟩
          refine ⟨fun h => absurd h (by decide), fun _ => ?_⟩
          refine ⟨fun h => absurd h (by decide), fun _ => ?_⟩
          exact ⟨by decide +kernel, hA.L f1 _ _ _ _ _ _ hE (by omega) (by omega)⟩
    · rw [if_neg h9] at hu
      refine w_went (G0 := fun _ => 0) (f1.Tr hT) hR (f1.his hH) (wCh.no (z := -9999) hu (by decide) (by decide) ?_)
      refine ⟨fun h => absurd h h9, fun _ => ?_⟩
      refine ⟨fun _ => ?_, fun h => absurd (by decide) h⟩
      refine refused (x := 7) (by omega) (f1.Tr hT) hR hv (f1.wid hw) (f1.his hH) hD (fun M2 a ha hE => ?_)
      refine nn_if (a := a) rfl (by omega) ?_
      exact ⟨by decide +kernel, hA.L f1 _ _ _ _ _ _ hE (by omega) (by omega)⟩
  refine wp_sound [558] 60 _ _ _ _ _ _ _ ?_
  refine (a_why0 hT hR).use ?_
  refine a_brings hT hR hw (fun M1 g1 => ?_)
  have f1 := g1.L
  rcases hk with ⟨h0, hk0, hp⟩ | ⟨h0, hk, hp⟩
  · subst h0
    refine ⟨fun _ => ?_, fun h => absurd (by decide) h⟩
    refine ⟨fun _ => ?_, fun h => absurd (by decide) h⟩
    refine a_tired (f1.Tr hT) hR (f1.wid hw) hi (fun M2 g2 => ?_)
    exact (r558 M2 0 0 (f1.trans g2.L) (Or.inl ⟨rfl, rfl, rfl⟩))
  · have w0 : ¬ Int32.ofNat S = 0 := ne_zero h0 (by omega)
    refine ⟨fun h => absurd h w0, fun _ => ?_⟩
    refine a_fate (f1.Tr hT) hR (f1.wid hw) hk (fun M2 g2 => ?_)
    have f2 := f1.trans g2.L
    refine ⟨fun h => absurd h w0, fun _ => ?_⟩
    refine (a_sack (w := 2) (f2.Tr hT) hR hk (by omega)).use ?_
    refine a_tired (f2.Tr hT) hR (f2.wid hw) hi (fun M3 g3 => ?_)
    exact (r558 M3 _ _ (f2.trans g3.L) (Or.inr ⟨h0, hk, rfl, rfl⟩))
theorem act_7 {i k : Nat} {p : Int32} (hT : TrN M 12 N m S t) (hR : rOk N m S t) (hv : vOk N S) (hw : widOk M 40) (hH : I_his M nx c) (hD : N 6 = Int32.ofNat D) (hD9 : D ≤ 9900) (hi : i < m) (hA : AQ Q (gW 143 (.inl (1, 1) :: X)) M N m S t D) (hk : S = 0 ∧ k = 0 ∧ p = -1 ∨ 0 < S ∧ k < S ∧ p = N (63 + 8 * k + 3)) : GoP RO (d + 9) 353 [.ref 0, .ref 145, .int (Int32.ofNat m), .int (Int32.ofNat S), .int (Int32.ofNat t), .int (Int32.ofNat i), .int (Int32.ofNat k), .int p, .retAddr 0, .retAddr 0, .retAddr 0, .retAddr 0, .retAddr 0, .retAddr 0, .retAddr 0, .retAddr 0, .retAddr 0, .retAddr 0, .retAddr 0, .retAddr 0, .retAddr 0, .retAddr 0, .retAddr 0, .retAddr 0, .retAddr 0, .retAddr 0, .retAddr 0, .retAddr 0, .retAddr 0] [] (gW 143 (.inl (1, 1) :: X)) M 722 0 0 Q := by
  have hm := hR.1.1.2.2.2.1
  have hS := hR.1.1.2.2.2.2.1
  have ht := hR.1.1.2.2.2.2.2.1
  refine wp_sound [] 90 _ _ _ _ _ _ _ ?_
  refine c_next (fun n M1 hn f => ?_)
  have f1 := FrL.nx f
  have hn9 := Nat.mod_lt n (show 0 < 9 by omega)
  refine ⟨by decide, ?_⟩
  rw [show Int32.ofNat n - Int32.ofNat n / 9 * 9 = Int32.ofNat (n % 9) from rem_sub (k := 9) (by omega) (by omega) (by omega)]
  have e1 : (1 : Int32) + Int32.ofNat (n % 9) = Int32.ofNat (1 + n % 9) := i_add 1 (n % 9)
  generalize hx : 1 + n % 9 = x at *
  refine (a_fresh (f1.Tr hT) hR hi).use ?_
  have hu : u_rest N m (1 + Int32.ofNat (n % 9)) = (0, tiredN (restN m N x) m) := by
    rw [e1, u_rest, show inB (Int32.ofNat x) 1 99 = true from inB_mid (i_nlt (b := 1) (by omega) (by omega) (by omega)) (i_nlt (a := 99) (by omega) (by omega) (by omega)), cond_true, clamp_nn (by omega), hD, i_add, if_neg (by rw [show (9999 : Int32) = Int32.ofNat 9999 from rfl, i_lt (by omega) (by omega)]; omega)]
  refine w_rested (f1.Tr hT) hR (f1.his hH) (wCh.yes hu (fun M2 t2 f2 => ?_))
  rw [e1, clamp_nn (by omega)] at t2
  have hR2 := rOk_rest (n := x) hR hD (by omega)
  have hE : actE M1 M2 N m S t (restN m N x) S t D := act_done (f1.Tr hT) (f1.wid hw) (f1.his hH) f2 t2 hR2 (vOk_rest hm hS hv) ⟨D + x, rest_6 hD, by omega⟩
  obtain ⟨⟨a, b, a1, a2, a3, a4⟩, hf⟩ := rest_all (D := x) hR hi
  refine (a_m1 t2 hR2 hi).use ?_
  rw [a1, a2]
  refine lt_if (a := a) (b := b) rfl rfl (by omega) (by omega) (fun h => absurd h (by omega)) (fun _ => ?_)
  rcases hf with hf | ⟨y, b', y1, y2, y3, y4, y5⟩
  · rw [hf]
    refine ⟨fun _ => ?_, fun h => absurd (by decide) h⟩
    exact ⟨by decide +kernel, hA.L f1 _ _ _ _ _ _ hE (by omega) (by omega)⟩
  · have eb : b' = b := i_inj (by omega) (by omega) (y2.symm.trans a2)
    subst eb
    rw [y1]
    refine nn_if (a := y) rfl (by omega) ?_
    refine (a_m1 t2 hR2 hi).use ?_
    rw [y2]
    refine eq_if (a := b') (b := 0) rfl rfl (by omega) (by omega) (fun e => ?_) (fun e => ?_)
    · refine lt_if (a := x) (b := y) e1 rfl (by omega) (by omega) (fun h => absurd (y5.mp e) (by omega)) (fun _ => ?_)
      refine ⟨fun _ => ?_, fun h => absurd (by decide) h⟩
      exact ⟨by decide +kernel, hA.L f1 _ _ _ _ _ _ hE (by omega) (by omega)⟩
    · refine lt_if (a := x) (b := y) e1 rfl (by omega) (by omega) (fun h => ?_) (fun h => absurd (y5.mpr h) e)
      refine ⟨fun _ => ?_, fun h => absurd (by decide) h⟩
      exact ⟨by decide +kernel, hA.L f1 _ _ _ _ _ _ hE (by omega) (by omega)⟩
theorem act_8 {i k : Nat} {p : Int32} (hT : TrN M 12 N m S t) (hR : rOk N m S t) (hv : vOk N S) (hw : widOk M 40) (hH : I_his M nx c) (hD : N 6 = Int32.ofNat D) (hD9 : D ≤ 9900) (hi : i < m) (hA : AQ Q (gW 143 (.inl (1, 1) :: X)) M N m S t D) (hk : S = 0 ∧ k = 0 ∧ p = -1 ∨ 0 < S ∧ k < S ∧ p = N (63 + 8 * k + 3)) : GoP RO (d + 9) 353 [.ref 0, .ref 145, .int (Int32.ofNat m), .int (Int32.ofNat S), .int (Int32.ofNat t), .int (Int32.ofNat i), .int (Int32.ofNat k), .int p, .retAddr 0, .retAddr 0, .retAddr 0, .retAddr 0, .retAddr 0, .retAddr 0, .retAddr 0, .retAddr 0, .retAddr 0, .retAddr 0, .retAddr 0, .retAddr 0, .retAddr 0, .retAddr 0, .retAddr 0, .retAddr 0, .retAddr 0, .retAddr 0, .retAddr 0, .retAddr 0, .retAddr 0] [] (gW 143 (.inl (1, 1) :: X)) M 802 0 0 Q := by
  have hm := hR.1.1.2.2.2.1
  have hS := hR.1.1.2.2.2.2.1
  have ht := hR.1.1.2.2.2.2.2.1
  refine wp_sound [] 120 _ _ _ _ _ _ _ ?_
  refine c_next (fun n1 M1 hn1 g1 => ?_)
  refine ⟨by decide, ?_⟩
  refine c_next (fun n2 M2 hn2 g2 => ?_)
  refine ⟨by decide, ?_⟩
  refine c_next (fun n3 M3 hn3 g3 => ?_)
  refine ⟨by decide, ?_⟩
  have f1 := (FrL.nx g1).trans ((FrL.nx g2).trans (FrL.nx g3))
  have x1 := Nat.mod_lt n1 (show 0 < 4 by omega)
  have x2 := Nat.mod_lt n2 (show 0 < 50 by omega)
  have x3 := Nat.mod_lt n3 (show 0 < 100 by omega)
  rw [show Int32.ofNat n1 - Int32.ofNat n1 / 4 * 4 = Int32.ofNat (n1 % 4) from rem_sub (k := 4) (by omega) (by omega) (by omega), show Int32.ofNat n2 - Int32.ofNat n2 / 50 * 50 = Int32.ofNat (n2 % 50) from rem_sub (k := 50) (by omega) (by omega) (by omega), show Int32.ofNat n3 - Int32.ofNat n3 / 100 * 100 = Int32.ofNat (n3 % 100) from rem_sub (k := 100) (by omega) (by omega) (by omega), show (1 : Int32) + Int32.ofNat (n2 % 50) = Int32.ofNat (1 + n2 % 50) from i_add 1 (n2 % 50)]
  have hu : u_addSack S (Int32.ofNat (n1 % 4)) (Int32.ofNat (1 + n2 % 50)) (Int32.ofNat (n3 % 100)) = if S = 16 then (2, 0) else (0, Int32.ofNat S) := by
    rw [u_addSack, show inB (Int32.ofNat (n1 % 4)) 0 3 = true from inB_on (n := 3) (by omega) (by omega) rfl, show inB (Int32.ofNat (1 + n2 % 50)) 1 99 = true from inB_mid (i_nlt (b := 1) (by omega) (by omega) (by omega)) (i_nlt (a := 99) (by omega) (by omega) (by omega)), show inB (Int32.ofNat (n3 % 100)) 0 999 = true from inB_on (n := 999) (by omega) (by omega) rfl]; rfl
  by_cases h9 : S = 16
  · rw [if_pos h9] at hu
    refine w_added (f1.Tr hT) hR (f1.his hH) (wCh.no (z := -3) hu (by decide) (by decide) ?_)
    refine eq_if (a := S) (b := 16) rfl rfl (by omega) (by omega) (fun _ => ?_) (fun h => absurd h9 h)
    refine ⟨fun _ => ?_, fun h => absurd (by decide) h⟩
    refine refused (x := 8) (by omega) (f1.Tr hT) hR hv (f1.wid hw) (f1.his hH) hD (fun M2 a ha hE => ?_)
    refine nn_if (a := a) rfl (by omega) ?_
    exact ⟨by decide +kernel, hA.L f1 _ _ _ _ _ _ hE (by omega) (by omega)⟩
  · rw [if_neg h9] at hu
    refine w_added (f1.Tr hT) hR (f1.his hH) (wCh.yes hu (fun M4 t2 f2 => ?_))
    have hR2 := rOk_brings (kd := Int32.ofNat (n1 % 4)) (v := Int32.ofNat (n3 % 100)) hR (by omega) (show 1 ≤ 1 + n2 % 50 by omega) (by omega)
    have hE : actE M3 M4 N m S t _ (S + 1) t D := act_done (f1.Tr hT) (f1.wid hw) (f1.his hH) f2 t2 hR2 (vOk_brings (by omega) (by omega) hv) ⟨D, by rw [bringsN_lo (by omega) (by omega)]; exact hD, by omega⟩
    refine eq_if (a := S) (b := 16) rfl rfl (by omega) (by omega) (fun h => absurd h h9) (fun _ => ?_)
    refine ⟨fun _ => ?_, fun h => absurd rfl h⟩
    refine (a_sack (i := S) (w := 3) t2 hR2 (by omega) (by omega)).use ?_
    rw [bringsN_c.2.2.2.1]
    refine ⟨fun _ => ?_, fun h => absurd (by decide) h⟩
    exact ⟨by decide +kernel, hA.L f1 _ _ _ _ _ _ hE (by omega) (by omega)⟩
theorem act_9 {i k : Nat} {p : Int32} (hT : TrN M 12 N m S t) (hR : rOk N m S t) (hv : vOk N S) (hw : widOk M 40) (hH : I_his M nx c) (hD : N 6 = Int32.ofNat D) (hD9 : D ≤ 9900) (hi : i < m) (hA : AQ Q (gW 143 (.inl (1, 1) :: X)) M N m S t D) (hk : S = 0 ∧ k = 0 ∧ p = -1 ∨ 0 < S ∧ k < S ∧ p = N (63 + 8 * k + 3)) : GoP RO (d + 9) 353 [.ref 0, .ref 145, .int (Int32.ofNat m), .int (Int32.ofNat S), .int (Int32.ofNat t), .int (Int32.ofNat i), .int (Int32.ofNat k), .int p, .retAddr 0, .retAddr 0, .retAddr 0, .retAddr 0, .retAddr 0, .retAddr 0, .retAddr 0, .retAddr 0, .retAddr 0, .retAddr 0, .retAddr 0, .retAddr 0, .retAddr 0, .retAddr 0, .retAddr 0, .retAddr 0, .retAddr 0, .retAddr 0, .retAddr 0, .retAddr 0, .retAddr 0] [] (gW 143 (.inl (1, 1) :: X)) M 883 0 0 Q := by
  have hm := hR.1.1.2.2.2.1
  have hS := hR.1.1.2.2.2.2.1
  have ht := hR.1.1.2.2.2.2.2.1
  refine wp_sound [] 150 _ _ _ _ _ _ _ ?_
  refine c_next (fun n0 M0 hn0 g0 => ?_)
  refine ⟨by decide, ?_⟩
  have f0 := FrL.nx g0
  have x0 := Nat.mod_lt n0 (show 0 < 2 by omega)
  rw [show Int32.ofNat n0 - Int32.ofNat n0 / 2 * 2 = Int32.ofNat (n0 % 2) from rem_sub (k := 2) (by omega) (by omega) (by omega)]
  refine eq_if (a := n0 % 2) (b := 0) rfl rfl (by omega) (by omega) (fun _ => ?_) (fun _ => ?_)
  · have f1 := f0
    by_cases h9 : t = 0
    · subst h9
      have hu : u_drop N 0 0 = (1, 0) := by
        rw [u_drop, show inB 0 0 (N 5 - 1) = false from by rw [hT.1.2.2.1]; decide]; rfl
      refine w_dropped (f1.Tr hT) hR (f1.his hH) (wCh.no (z := -5) hu (by decide) (by decide) ?_)
      refine ⟨fun _ => ?_, fun h => absurd (by decide) h⟩
      refine ⟨fun _ => ?_, fun h => absurd (by decide) h⟩
      refine refused (x := 9) (by omega) (f1.Tr hT) hR hv (f1.wid hw) (f1.his hH) hD (fun M2 a ha hE => ?_)
      refine nn_if (a := a) rfl (by omega) ?_
      exact ⟨by decide +kernel, hA.L f1 _ _ _ _ _ _ hE (by omega) (by omega)⟩
    · have hu : u_drop N t 0 = (0, Int32.ofNat (t - 1)) := by
        rw [u_drop, show inB 0 0 (N 5 - 1) = true from inB_in (i := 0) (by omega) hT.1.2.2.1 (by omega) rfl]; rfl
      refine w_dropped (f1.Tr hT) hR (f1.his hH) (wCh.yes hu (fun M2 t2 f2 => ?_))
      have hR2 := rOk_drop (k := 0) hR (by omega)
      have t2' : TrN M2 12 (dropF (upd N 5 (Int32.ofNat (t - 1))) (191 + 2 * 0) (191 + 2 * (t - 1))) m S (t - 1) := t2
      have hE : actE M0 M2 N m S t (dropF (upd N 5 (Int32.ofNat (t - 1))) (191 + 2 * 0) (191 + 2 * (t - 1))) S (t - 1) D := act_done (f1.Tr hT) (f1.wid hw) (f1.his hH) f2 t2' hR2 (vOk_high (fun j h1 h2 => by rw [dropF, if_neg (by omega), upd_ne h2]) hS hv) ⟨D, by rw [dropF, if_neg (by omega), upd_ne (by omega)]; exact hD, by omega⟩
      refine eq_if (a := t) (b := 0) rfl rfl (by omega) (by omega) (fun h => absurd h h9) (fun _ => ?_)
      refine ⟨fun _ => ?_, fun h => absurd (show Int32.ofNat (t - 1) = Int32.ofNat t - 1 from (i_sub (a := t) (b := 1) (by omega)).symm) h⟩
      exact ⟨by decide +kernel, hA.L f1 _ _ _ _ _ _ hE (by omega) (by omega)⟩
  · refine c_next (fun n1 M1 hn1 g1 => ?_)
    refine ⟨by decide, ?_⟩
    refine c_next (fun n2 M2 hn2 g2 => ?_)
    refine ⟨by decide, ?_⟩
    have f1 := f0.trans ((FrL.nx g1).trans (FrL.nx g2))
    have x1 := Nat.mod_lt n1 (show 0 < 3 by omega)
    have x2 := Nat.mod_lt n2 (show 0 < 9 by omega)
    rw [show Int32.ofNat n1 - Int32.ofNat n1 / 3 * 3 = Int32.ofNat (n1 % 3) from rem_sub (k := 3) (by omega) (by omega) (by omega), show Int32.ofNat n2 - Int32.ofNat n2 / 9 * 9 = Int32.ofNat (n2 % 9) from rem_sub (k := 9) (by omega) (by omega) (by omega)]
    have e1 : (1 : Int32) + Int32.ofNat (n2 % 9) = Int32.ofNat (1 + n2 % 9) := i_add 1 (n2 % 9)
    generalize hk9 : n1 % 3 = kd at *
    generalize hn9 : 1 + n2 % 9 = x at *
    obtain ⟨q1, q2⟩ : mostS (Int32.ofNat kd) = Int32.ofNat (mstN kd) ∧ 9 ≤ mstN kd ∧ mstN kd ≤ 99 := by
      rcases (show kd = 0 ∨ kd = 1 ∨ kd = 2 by omega) with h | h | h <;> subst h <;> decide
    have hu : u_addStage t (Int32.ofNat kd) (1 + Int32.ofNat (n2 % 9)) = if t = 8 then (2, 0) else (0, Int32.ofNat t) := by
      rw [e1, u_addStage, show inB (Int32.ofNat kd) 0 2 = true from inB_on (n := 2) (by omega) (by omega) rfl, q1, show inB (Int32.ofNat x) 1 (Int32.ofNat (mstN kd)) = true from inB_mid (i_nlt (b := 1) (by omega) (by omega) (by omega)) (i_nlt (by omega) (by omega) (by omega))]; rfl
    by_cases h9 : t = 8
    · rw [if_pos h9] at hu
      refine w_staged (f1.Tr hT) hR (f1.his hH) (wCh.no (z := -3) hu (by decide) (by decide) ?_)
      refine eq_if (a := t) (b := 8) rfl rfl (by omega) (by omega) (fun _ => ?_) (fun h => absurd h9 h)
      refine ⟨fun _ => ?_, fun h => absurd (by decide) h⟩
      refine refused (x := 10) (by omega) (f1.Tr hT) hR hv (f1.wid hw) (f1.his hH) hD (fun M2 a ha hE => ?_)
      refine nn_if (a := a) rfl (by omega) ?_
      exact ⟨by decide +kernel, hA.L f1 _ _ _ _ _ _ hE (by omega) (by omega)⟩
    · rw [if_neg h9] at hu
      refine w_staged (f1.Tr hT) hR (f1.his hH) (wCh.yes hu (fun M4 t2 f2 => ?_))
      rw [e1] at t2
      have hR2 := rOk_leads (k := kd) (x := x) hR (by omega) (by omega) (by omega) (by omega) (fun _ => by omega)
      have hE : actE M2 M4 N m S t (leadsN N t (Int32.ofNat kd) (Int32.ofNat x)) S (t + 1) D := act_done (f1.Tr hT) (f1.wid hw) (f1.his hH) f2 t2 hR2 (vOk_high (fun j h1 h2 => leads_lo h1 h2) hS hv) ⟨D, by rw [leads_lo (by omega) (by omega)]; exact hD, by omega⟩
      refine eq_if (a := t) (b := 8) rfl rfl (by omega) (by omega) (fun h => absurd h h9) (fun _ => ?_)
      refine ⟨fun _ => ?_, fun h => absurd rfl h⟩
      refine (a_v6 t2).use ?_
      refine ⟨fun _ => ?_, fun h => absurd (i_inc (i := t)).symm h⟩
      exact ⟨by decide +kernel, hA.L f1 _ _ _ _ _ _ hE (by omega) (by omega)⟩
end ACTB
