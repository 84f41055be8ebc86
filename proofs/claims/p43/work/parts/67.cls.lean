/-! a train begun anew; a stage dropped -/
theorem dropF_at {N : Nat → Int32} {a b j : Nat} (h : j < a ∨ b ≤ j) : dropF N a b j = N j := by
  rw [dropF, if_neg (by omega)]
theorem dropF_in {N : Nat → Int32} {a b j : Nat} (h : a ≤ j) (h2 : j < b) : dropF N a b j = N (j + 2) := by
  rw [dropF, if_pos (by omega)]
section CLS
variable {RO : List mE} {d sb : Nat} {ext : List sh} {c9 : sh} {r9 : List sh} {M : mM} {Q : mQ} {m S t : Nat} {N : Nat → Int32}
theorem c_beginAnew (w1 : M 4 0 = 8) (w3 : M 6 0 = 9) (w5 : M 8 0 = 2) (hQ : ∀ M', TrN M' 3 (fun _ => 0) 0 0 0 → FrB 3 M M' → Q (.inl none) (gX c9 r9) M' 0 0) : EvP RO (d + 2) 41 [.ref 3] (gX c9 r9) M Q := by
  have e0 : ∀ d q M, q = 4 ∨ q = 6 ∨ q = 8 → EvR RO (d + 1) 34 [.ref q] (gX c9 r9) M none (upM M q (upd (M q) 2 0)) := by
    intro d q M hq
    rcases hq with rfl | rfl | rfl
    all_goals
      refine EvP.wp [] 40 rfl ?_
      exact ⟨rfl, rfl, rfl, rfl, rfl⟩
  refine EvP.wp [] 400 rfl ?_
  refine (e0 _ 4 _ (Or.inl rfl)).use ?_
  refine (e0 _ 6 _ (Or.inr (Or.inl rfl))).use ?_
  refine (e0 _ 8 _ (Or.inr (Or.inr rfl))).use ?_
  refine ⟨fun _ => ?_, fun h => absurd (by decide) h⟩
  refine ⟨0, rfl, by omega, ?_⟩
  refine ⟨fun _ => ?_, fun h => absurd (by decide) h⟩
  refine ⟨1, rfl, by omega, ?_⟩
  refine ⟨fun _ => ?_, fun h => absurd (by decide) h⟩
  refine ⟨2, rfl, by omega, ?_⟩
  refine ⟨fun h => absurd h (by decide), fun _ => ?_⟩
  refine ⟨fun _ => ?_, fun h => absurd (by decide) h⟩
  refine ⟨0, rfl, by omega, ?_⟩
  refine ⟨fun _ => ?_, fun h => absurd (by decide) h⟩
  refine ⟨1, rfl, by omega, ?_⟩
  refine ⟨fun _ => ?_, fun h => absurd (by decide) h⟩
  refine ⟨2, rfl, by omega, ?_⟩
  refine ⟨fun _ => ?_, fun h => absurd (by decide) h⟩
  refine ⟨3, rfl, by omega, ?_⟩
  refine ⟨fun _ => ?_, fun h => absurd (by decide) h⟩
  refine ⟨4, rfl, by omega, ?_⟩
  refine ⟨fun _ => ?_, fun h => absurd (by decide) h⟩
  refine ⟨5, rfl, by omega, ?_⟩
  refine ⟨fun _ => ?_, fun h => absurd (by decide) h⟩
  refine ⟨6, rfl, by omega, ?_⟩
  refine ⟨fun h => absurd h (by decide), fun _ => ?_⟩
  refine hQ _ ⟨⟨rfl, rfl, rfl, by omega, by omega, by omega⟩, ⟨rfl, rfl⟩, ⟨w1, rfl⟩, ⟨w3, rfl⟩, ⟨w5, rfl⟩, fun j hj => ?_, fun j hj => ?_, fun i c h _ => absurd h (Nat.not_lt_zero _), fun i h => absurd h (Nat.not_lt_zero _), fun i c h _ => absurd h (Nat.not_lt_zero _)⟩ (fun q hq => ?_)
  · rcases (show j = 0 ∨ j = 1 ∨ j = 2 by omega) with rfl | rfl | rfl <;> rfl
  · rcases (show j = 0 ∨ j = 1 ∨ j = 2 ∨ j = 3 ∨ j = 4 ∨ j = 5 ∨ j = 6 by omega) with rfl | rfl | rfl | rfl | rfl | rfl | rfl <;> rfl
  · repeat rw [upM_ne (by omega)]
theorem r_atT {i c u : Nat} (c1 : M 17 0 = 2) (c2 : M 17 2 = Int32.ofNat u) (hu : u ≤ 8) (hi : i < u) (hc : c < 2) : EvR RO (d + 1) 31 [.ref 17, .int (Int32.ofNat i), .int (Int32.ofNat c)] (gW sb ext) M (some (.int (M 18 (2 * i + c)))) M := by
  have hx : Int32.ofNat i * M 17 0 + Int32.ofNat c = Int32.ofNat (2 * i + c) := by
    rw [c1, show (2 : Int32) = Int32.ofNat 2 from rfl, i_mul, i_add, Nat.mul_comm]
  refine EvP.wp [] 40 rfl ?_
  refine nn_if rfl (by omega) ?_
  refine lt_if rfl c2 (by omega) (by omega) (fun _ => ?_) (fun h => absurd h (by omega))
  refine nn_if rfl (by omega) ?_
  refine lt_if (b := 2) rfl c1 (by omega) (by omega) (fun _ => ?_) (fun h => absurd h (by omega))
  refine lt_if (b := 16) hx rfl (by omega) (by omega) (fun _ => ?_) (fun h => absurd h (by omega))
  refine ⟨2 * i + c, hx, by omega, ?_⟩
  exact ⟨rfl, rfl, rfl, rfl, rfl⟩
theorem r_dropRow {k : Nat} (hT : TrN M 12 N m S t) (hk : k < t) (hQ : ∀ M', TrN M' 12 (dropF (upd N 5 (Int32.ofNat (t - 1))) (191 + 2 * k) (191 + 2 * (t - 1))) m S (t - 1) → FrB 12 M M' → Q (.inl none) (gW sb ext) M' 0 0) : EvP RO (d + 2) 33 [.ref 17, .int (Int32.ofNat k)] (gW sb ext) M Q := by
  have ht := hT.1.2.2.2.2.2
  have c1 := hT.2.2.2.2.1.1
  have c2 := hT.2.2.2.2.1.2
  -- the array behind n rows moved and c numbers of the next
  have fin : Q (.inl none) (gW sb ext) (upM (upM M 18 (dropF (M 18) (2 * k) (2 * (t - 1)))) 17 (upd (M 17) 2 (Int32.ofNat (t - 1)))) 0 0 := by
    refine hQ _ ?_ (FrB.trans (FrB.up (by omega)) (FrB.up (by omega)))
    obtain ⟨⟨a1, a2, a3, a4, a5, a6⟩, ⟨b1, b2⟩, ⟨cc1, cc2⟩, ⟨d1, d2⟩, -, f1, g1, k1, i1, j1⟩ := hT
    have nu : ∀ j, j < 191 → j ≠ 5 → dropF (upd N 5 (Int32.ofNat (t - 1))) (191 + 2 * k) (191 + 2 * (t - 1)) j = N j := fun j h h5 => by
      rw [dropF_at (by omega), upd_ne h5]
    have ne : ∀ q, q ≠ 17 → q ≠ 18 → (upM (upM M 18 (dropF (M 18) (2 * k) (2 * (t - 1)))) 17 (upd (M 17) 2 (Int32.ofNat (t - 1)))) q = M q := fun q h1 h2 => by rw [upM_ne h1, upM_ne h2]
    refine ⟨⟨by rw [nu 3 (by omega) (by omega)]; exact a1, by rw [nu 4 (by omega) (by omega)]; exact a2, by rw [dropF_at (by omega), upd_at], a4, a5, by omega⟩, ⟨by rw [ne 12 (by omega) (by omega), nu 6 (by omega) (by omega)]; exact b1, by rw [ne 12 (by omega) (by omega), nu 7 (by omega) (by omega)]; exact b2⟩, ⟨by rw [ne 13 (by omega) (by omega)]; exact cc1, by rw [ne 13 (by omega) (by omega)]; exact cc2⟩, ⟨by rw [ne 15 (by omega) (by omega)]; exact d1, by rw [ne 15 (by omega) (by omega)]; exact d2⟩, ⟨by rw [upM_at, upd_ne (by decide)]; exact c1, by rw [upM_at, upd_at]⟩, fun j hj => by rw [ne _ (by omega) (by omega), nu _ (by omega) (by omega)]; exact f1 j hj, fun j hj => by rw [ne _ (by omega) (by omega), nu _ (by omega) (by omega)]; exact g1 j hj, fun i c hi hc => by rw [ne _ (by omega) (by omega), nu _ (by omega) (by omega)]; exact k1 i c hi hc, fun i hi => ?_, fun i c hi hc => ?_⟩
    · obtain ⟨l1, l2, l3, l4⟩ := i1 i hi
      refine ⟨by rw [ne _ (by omega) (by omega), nu _ (by omega) (by omega)]; exact l1, by rw [ne _ (by omega) (by omega), nu _ (by omega) (by omega)]; exact l2, ?_, fun j hj => by rw [ne _ (by omega) (by omega), nu _ (by omega) (by omega)]; exact l4 j hj⟩
      rw [ne _ (by omega) (by omega), lettN_congr (N := N) (fun n hn => nu _ (by omega) (by omega))]; exact l3
    · show upM (upM M 18 (dropF (M 18) (2 * k) (2 * (t - 1)))) 17 (upd (M 17) 2 (Int32.ofNat (t - 1))) 18 (2 * i + c) = _
      rw [upM_ne (by omega), upM_at]
      by_cases h : k ≤ i
      · rw [dropF_in (by omega) (by omega), dropF_in (by omega) (by omega), upd_ne (by omega)]
        have h9 := j1 (i + 1) c (by omega) hc
        rw [show 2 * i + c + 2 = 2 * (i + 1) + c by omega, show 191 + 2 * i + c + 2 = 191 + 2 * (i + 1) + c by omega]
        exact h9
      · rw [dropF_at (by omega), dropF_at (by omega), upd_ne (by omega)]
        exact j1 i c (by omega) hc
  have hc3 : Int32.ofNat t - 1 = Int32.ofNat (t - 1) := i_sub (a := t) (b := 1) (by omega)
  rw [← hc3, ← c2] at fin
  have outer := up_ind (S := t) (H := fun n => k + 1 ≤ n → ∀ v : Value, GoP RO (d + 1) 33 [.ref 17, .int (Int32.ofNat k), .int (Int32.ofNat n), v] [] (gW sb ext) (upM M 18 (dropF (M 18) (2 * k) (2 * (n - 1)))) 17 0 0 Q) (fun _ v => ?_) (fun n hn ih hkn v => ?_) (k + 1) (by omega) (Nat.le_refl _)
  · have o0 := outer (.retAddr 0)
    rw [show 2 * (k + 1 - 1) = 2 * k by omega, dropF_0, upM_self] at o0
    refine EvP.wp [17] 60 rfl ?_
    refine nn_if rfl (by omega) ?_
    refine lt_if rfl c2 (by omega) (by omega) (fun _ => ?_) (fun h => absurd h (by omega))
    refine GoP.eq2 o0 (by rw [← i_inc]; rfl) rfl
  · refine wp_sound [17] 60 _ _ _ _ _ _ _ ?_
    refine lt_if (a := t) rfl c2 (by omega) (by omega) (fun h => absurd h (by omega)) (fun _ => ?_)
    exact fin
  · have c1' : ∀ F, (upM M 18 F) 17 0 = 2 := fun F => c1
    have c2' : ∀ F, (upM M 18 F) 17 2 = Int32.ofNat t := fun F => c2
    have inner := up_ind (S := 2) (H := fun c => GoP RO (d + 1) 33 [.ref 17, .int (Int32.ofNat k), .int (Int32.ofNat n), .int (Int32.ofNat c)] [] (gW sb ext) (upM M 18 (dropF (M 18) (2 * k) (2 * (n - 1) + c))) 27 0 0 Q) ?_ (fun c hc ih2 => ?_) 0 (by omega)
    · refine wp_sound [17, 27] 60 _ _ _ _ _ _ _ ?_
      refine lt_if rfl c2 (by omega) (by omega) (fun _ => ?_) (fun h => absurd h (by omega))
      exact inner
    · refine wp_sound [17, 27] 60 _ _ _ _ _ _ _ ?_
      refine lt_if (a := 2) (b := 2) rfl c1 (by omega) (by omega) (fun h => absurd h (by omega)) (fun _ => ?_)
      refine GoP.eq2 (ih (by omega) _) (by rw [i_inc]) ?_
      rw [show 2 * (n + 1 - 1) = 2 * (n - 1) + 2 by omega]
    · have hat := fun d => r_atT (RO := RO) (d := d) (sb := sb) (ext := ext) (M := upM M 18 (dropF (M 18) (2 * k) (2 * (n - 1) + c))) (i := n) (c := c) (u := t) (c1' _) (c2' _) ht hn hc
      have hpt := fun d => r_putT (RO := RO) (d := d) (GG := gW sb ext) (b := 12) (M := upM M 18 (dropF (M 18) (2 * k) (2 * (n - 1) + c))) (i := n - 1) (c := c) (u := t) (x := dropF (M 18) (2 * k) (2 * (n - 1) + c) (2 * n + c)) bas_12 (c1' _) (c2' _) ht (by omega) hc
      have hs := dropF_s (N := M 18) (a := 2 * k) (b := 2 * (n - 1) + c) (by omega)
      rw [show 2 * (n - 1) + c + 2 = 2 * n + c by omega] at hs
      have hpt2 : ∀ d, EvR RO (d + 1) 38 [.ref 17, .int (Int32.ofNat (n - 1)), .int (Int32.ofNat c), .int (dropF (M 18) (2 * k) (2 * (n - 1) + c) (2 * n + c))] (gW sb ext) (upM M 18 (dropF (M 18) (2 * k) (2 * (n - 1) + c))) none (upM M 18 (dropF (M 18) (2 * k) (2 * (n - 1) + c + 1))) := fun d => by
        have h9 := hpt d
        rw [show 12 + 6 = 18 from rfl, upM_at, upM_upM, hs] at h9
        exact h9
      have hn1 : Int32.ofNat n - 1 = Int32.ofNat (n - 1) := i_sub (a := n) (b := 1) (by omega)
      rw [← hn1] at hpt2
      refine wp_sound [17, 27] 60 _ _ _ _ _ _ _ ?_
      refine lt_if (a := c) (b := 2) rfl c1 (by omega) (by omega) (fun _ => ?_) (fun h => absurd h (by omega))
      refine (hat _).use ?_
      refine (hpt2 _).use ?_
      refine GoP.eq2 ih2 (by rw [i_inc]) rfl
end CLS
