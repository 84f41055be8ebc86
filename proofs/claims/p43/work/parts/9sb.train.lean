/-! the law writes a train: mules, sacks, all of it -/
section TRM
variable {hs f : Nat → Int32} {len d o p cap x0 c s n : Nat} {X : List sh} {M M0 : mM} {Q : mQ} {T : List Nat} {a b cc mu sa : Nat}
theorem tr_sacks (ha : a ≤ 99 ∧ b ≤ 50 ∧ cc ≤ 50) (hmu : mu ≤ 4) (hsa : sa ≤ 9) (hQ : TrQ Q hs f len M0 x0 mu sa) : ∀ k, k ≤ sa → ∀ (X : List sh) (M : mM) (p cap : Nat) (T : List Nat) (c s n : Nat) (ls : List LN) (L5 : Value), TrS X M M0 o p cap T x0 c s n → n ≤ 21 + 6 * k → TrE T a b cc ls mu k 0 (58 + 17 * k) → GoP (RO9 hs len f) (d + 10) 367 [.int (Int32.ofNat mu), .int (Int32.ofNat sa), .ref 145, .ref o, .int (Int32.ofNat k), L5] [] (gW 143 (.inl (1, 1) :: X)) M 103 c s Q := by
  refine up_ind (S := sa) (H := fun k => ∀ (X : List sh) (M : mM) (p cap : Nat) (T : List Nat) (c s n : Nat) (ls : List LN) (L5 : Value), TrS X M M0 o p cap T x0 c s n → n ≤ 21 + 6 * k → TrE T a b cc ls mu k 0 (58 + 17 * k) → GoP (RO9 hs len f) (d + 10) 367 [.int (Int32.ofNat mu), .int (Int32.ofNat sa), .ref 145, .ref o, .int (Int32.ofNat k), L5] [] (gW 143 (.inl (1, 1) :: X)) M 103 c s Q) ?_ (fun k hk ih => ?_)
  · intro X M p cap T c s n ls L5 hS hn hE
    refine wp_sound [207] 40 _ _ _ _ _ _ _ ?_
    refine lt_if (a := sa) (b := sa) rfl rfl (by omega) (by omega) (fun h => absurd h (by omega)) (fun _ => ?_)
    refine c_next (fun n1 M1 hn1 g1 => ?_)
    refine ⟨by decide, ?_⟩
    rw [show Int32.ofNat n1 - Int32.ofNat n1 / 5 * 5 = Int32.ofNat (n1 % 5) from rem_sub (k := 5) (by omega) (by omega) (by omega)]
    exact tr_stages ha hmu hsa hQ (n1 % 5) (Nat.mod_lt _ (by omega)) X M1 p cap T _ _ n 0 ls L5 (by have := Nat.mod_lt n1 (show 0 < 5 by omega); omega) (hS.nx g1) (by omega) (hE.le (by omega))
  · intro X M p cap T c s n ls L5 hS hn hE
    have hTl := hE.2.2.2.2
    refine wp_sound [120] 40 _ _ _ _ _ _ _ ?_
    refine lt_if (a := k) (b := sa) rfl rfl (by omega) (by omega) (fun _ => ?_) (fun h => absurd h (by omega))
    refine c_next (fun n1 M1 hn1 g1 => ?_)
    refine ⟨by decide, ?_⟩
    rw [show Int32.ofNat n1 - Int32.ofNat n1 / 4 * 4 = Int32.ofNat (n1 % 4) from rem_sub (k := 4) (by omega) (by omega) (by omega)]
    have x1 := Nat.mod_lt n1 (show 0 < 4 by omega)
    generalize n1 % 4 = kd at x1
    refine ap_str rfl rfl (hS.nx g1) (by omega) (w6 2 (by omega) (by omega)).1 (w6 2 (by omega) (by omega)).2 (stA hs f len).2.1 (by omega) (fun X2 M2 p2 cap2 c2 s2 hS2 => ?_)
    have l2 : (T ++ (59 :: (wdL 2 ++ [32]))).length ≤ 217 := by rw [List.length_append]; have := (w6 2 (by omega) (by omega)).1; omega
    generalize hT2 : T ++ (59 :: (wdL 2 ++ [32])) = T2 at hS2 l2
    have r157 : ∀ z : Nat, z = 1000038 + 2 * kd → GoP (RO9 hs len f) (d + 10) 367 [.int (Int32.ofNat mu), .int (Int32.ofNat sa), .ref 145, .ref o, .int (Int32.ofNat k), .int (Int32.ofNat kd)] [.ref z, .ref o] (gW 143 (.inl (1, 1) :: X2)) M2 157 c2 s2 Q := by
      intro z hz
      subst hz
      refine ap_str rfl rfl hS2 (by omega) (Nat.le_trans (w128.1 (9 + kd) (by omega)).1 (by omega)) (w128.1 (9 + kd) (by omega)).2 (fun G M => stK x1 G M) (by omega) (fun X3 M3 p3 cap3 c3 s3 hS3 => ?_)
      have l3 : (T2 ++ wdL (9 + kd)).length ≤ 222 := by rw [List.length_append]; have := (w128.1 (9 + kd) (by omega)).1; omega
      generalize hT3 : T2 ++ wdL (9 + kd) = T3 at hS3 l3
      refine wp_sound [162] 20 _ _ _ _ _ _ _ ?_
      refine ap_chr (x := 32) rfl rfl hS3 (by omega) (by omega) (by omega) (fun X4 M4 p4 cap4 c4 s4 hS4 => ?_)
      have l4 : (T3 ++ [32]).length ≤ 223 := by rw [List.length_append]; show T3.length + 1 ≤ _; omega
      generalize hT4 : T3 ++ [32] = T4 at hS4 l4
      refine wp_sound [174] 20 _ _ _ _ _ _ _ ?_
      refine c_next (fun n2 M5 hn2 g2 => ?_)
      refine ⟨by decide, ?_⟩
      rw [show Int32.ofNat n2 - Int32.ofNat n2 / 50 * 50 = Int32.ofNat (n2 % 50) from rem_sub (k := 50) (by omega) (by omega) (by omega)]
      have x2 := Nat.mod_lt n2 (show 0 < 50 by omega)
      refine GoP.eqs (st := [.int (Int32.ofNat (1 + n2 % 50)), .ref o]) ?_ (by rw [← i_add]; rfl)
      generalize hw9 : 1 + n2 % 50 = w9
      have d5 := dig_2 (n := w9) (by omega)
      refine ap_int rfl rfl (hS4.nx g2) (by omega) (by omega) (by omega) (fun X5 M5 p5 cap5 c5 s5 hS5 => ?_)
      have l5 : (T4 ++ digN w9).length ≤ 225 := by rw [List.length_append]; omega
      generalize hT5 : T4 ++ digN w9 = T5 at hS5 l5
      refine wp_sound [179] 20 _ _ _ _ _ _ _ ?_
      refine ap_chr (x := 32) rfl rfl hS5 (by omega) (by omega) (by omega) (fun X6 M6 p6 cap6 c6 s6 hS6 => ?_)
      have l6 : (T5 ++ [32]).length ≤ 226 := by rw [List.length_append]; show T5.length + 1 ≤ _; omega
      generalize hT6 : T5 ++ [32] = T6 at hS6 l6
      refine wp_sound [189] 20 _ _ _ _ _ _ _ ?_
      refine c_next (fun n3 M7 hn3 g3 => ?_)
      refine ⟨by decide, ?_⟩
      rw [show Int32.ofNat n3 - Int32.ofNat n3 / 100 * 100 = Int32.ofNat (n3 % 100) from rem_sub (k := 100) (by omega) (by omega) (by omega)]
      have x3 := Nat.mod_lt n3 (show 0 < 100 by omega)
      have d7 := dig_2 (n := n3 % 100) (by omega)
      refine ap_int rfl rfl (hS6.nx g3) (by omega) (by omega) (by omega) (fun X7 M7 p7 cap7 c7 s7 hS7 => ?_)
      refine wp_sound [103] 20 _ _ _ _ _ _ _ ?_
      have hE2 : TrE (T6 ++ digN (n3 % 100)) a b cc (ls ++ [(1, kd, w9, n3 % 100)]) (mu + 0) (k + 1) (0 + 0) (58 + 17 * k + 17) := hE.snoc (l := (1, kd, w9, n3 % 100)) ⟨by omega, by omega, by omega, by omega, by omega⟩ rfl (by subst hT6 hT5 hT4 hT3 hT2; show _ = T ++ (59 :: (wdL 2 ++ 32 :: (wdL (9 + kd) ++ 32 :: (digN w9 ++ 32 :: digN (n3 % 100))))); simp) (by show (59 :: (wdL 2 ++ 32 :: (wdL (9 + kd) ++ 32 :: (digN w9 ++ 32 :: digN (n3 % 100))))).length ≤ 17; rw [List.length_cons, List.length_append, List.length_cons, List.length_append, List.length_cons, List.length_append, List.length_cons]; have : (wdL 2).length = 4 := rfl; have := (w128.1 (9 + kd) (by omega)).1; omega)
      refine GoP.eq2 (ih X7 M7 p7 cap7 _ _ _ _ (ls ++ [(1, kd, w9, n3 % 100)]) (.int (Int32.ofNat kd)) hS7 (by omega) (hE2.le (by omega))) ?_ rfl
      rw [i_inc]
    refine wp_sound [157] 20 _ _ _ _ _ _ _ ?_
    rcases (show kd = 0 ∨ kd = 1 ∨ kd = 2 ∨ kd = 3 by omega) with rfl | rfl | rfl | rfl
    · refine ⟨fun _ => ?_, fun h => absurd (by decide) h⟩
      exact r157 _ rfl
    · refine ⟨fun h => absurd h (by decide), fun _ => ?_⟩
      refine ⟨fun _ => ?_, fun h => absurd (by decide) h⟩
      exact r157 _ rfl
    · refine ⟨fun h => absurd h (by decide), fun _ => ?_⟩
      refine ⟨fun h => absurd h (by decide), fun _ => ?_⟩
      refine ⟨fun _ => ?_, fun h => absurd (by decide) h⟩
      exact r157 _ rfl
    · refine ⟨fun h => absurd h (by decide), fun _ => ?_⟩
      refine ⟨fun h => absurd h (by decide), fun _ => ?_⟩
      refine ⟨fun h => absurd h (by decide), fun _ => ?_⟩
      exact r157 _ rfl
theorem tr_mules (ha : a ≤ 99 ∧ b ≤ 50 ∧ cc ≤ 50) (hmu : mu ≤ 4) (hsa : sa ≤ 9) (hQ : TrQ Q hs f len M0 x0 mu sa) : ∀ k, k ≤ mu → ∀ (X : List sh) (M : mM) (p cap : Nat) (T : List Nat) (c s n : Nat) (ls : List LN) (L5 : Value), TrS X M M0 o p cap T x0 c s n → n ≤ 5 + 4 * k → TrE T a b cc ls k 0 0 (14 + 11 * k) → GoP (RO9 hs len f) (d + 10) 367 [.int (Int32.ofNat mu), .int (Int32.ofNat sa), .ref 145, .ref o, .int (Int32.ofNat k), L5] [] (gW 143 (.inl (1, 1) :: X)) M 53 c s Q := by
  refine up_ind (S := mu) (H := fun k => ∀ (X : List sh) (M : mM) (p cap : Nat) (T : List Nat) (c s n : Nat) (ls : List LN) (L5 : Value), TrS X M M0 o p cap T x0 c s n → n ≤ 5 + 4 * k → TrE T a b cc ls k 0 0 (14 + 11 * k) → GoP (RO9 hs len f) (d + 10) 367 [.int (Int32.ofNat mu), .int (Int32.ofNat sa), .ref 145, .ref o, .int (Int32.ofNat k), L5] [] (gW 143 (.inl (1, 1) :: X)) M 53 c s Q) ?_ (fun k hk ih => ?_)
  · intro X M p cap T c s n ls L5 hS hn hE
    refine wp_sound [103] 40 _ _ _ _ _ _ _ ?_
    refine lt_if (a := mu) (b := mu) rfl rfl (by omega) (by omega) (fun h => absurd h (by omega)) (fun _ => ?_)
    exact tr_sacks ha hmu hsa hQ 0 (by omega) X M p cap T _ _ n ls L5 hS (by omega) (hE.le (by omega))
  · intro X M p cap T c s n ls L5 hS hn hE
    have hTl := hE.2.2.2.2
    refine wp_sound [62] 40 _ _ _ _ _ _ _ ?_
    refine lt_if (a := k) (b := mu) rfl rfl (by omega) (by omega) (fun _ => ?_) (fun h => absurd h (by omega))
    refine ap_str rfl rfl hS (by omega) (w6 1 (by omega) (by omega)).1 (w6 1 (by omega) (by omega)).2 (stA hs f len).1 (by omega) (fun X2 M2 p2 cap2 c2 s2 hS2 => ?_)
    have l2 : (T ++ (59 :: (wdL 1 ++ [32]))).length ≤ 64 := by rw [List.length_append]; have := (w6 1 (by omega) (by omega)).1; omega
    generalize hT2 : T ++ (59 :: (wdL 1 ++ [32])) = T2 at hS2 l2
    refine wp_sound [71] 20 _ _ _ _ _ _ _ ?_
    refine GoP.eqs (st := [.int (Int32.ofNat (97 + k)), .ref o]) ?_ (by rw [← (byte_small (97 + k) (by omega)).2.2.2.2.1, ← i_add]; rfl)
    refine ap_chr (x := 97 + k) rfl rfl hS2 (by omega) (by omega) (by omega) (fun X3 M3 p3 cap3 c3 s3 hS3 => ?_)
    have l3 : (T2 ++ [97 + k]).length ≤ 65 := by rw [List.length_append]; show T2.length + 1 ≤ _; omega
    generalize hT3 : T2 ++ [97 + k] = T3 at hS3 l3
    refine wp_sound [76] 20 _ _ _ _ _ _ _ ?_
    refine ap_chr (x := 32) rfl rfl hS3 (by omega) (by omega) (by omega) (fun X4 M4 p4 cap4 c4 s4 hS4 => ?_)
    have l4 : (T3 ++ [32]).length ≤ 66 := by rw [List.length_append]; show T3.length + 1 ≤ _; omega
    generalize hT4 : T3 ++ [32] = T4 at hS4 l4
    refine wp_sound [90] 20 _ _ _ _ _ _ _ ?_
    refine c_next (fun n2 M5 hn2 g2 => ?_)
    refine ⟨by decide, ?_⟩
    rw [show Int32.ofNat n2 - Int32.ofNat n2 / 200 * 200 = Int32.ofNat (n2 % 200) from rem_sub (k := 200) (by omega) (by omega) (by omega)]
    have x2 := Nat.mod_lt n2 (show 0 < 200 by omega)
    refine GoP.eqs (st := [.int (Int32.ofNat (10 + n2 % 200)), .ref o]) ?_ (by rw [← i_add]; rfl)
    generalize hw9 : 10 + n2 % 200 = w9
    have d5 := (digN_3 (a := w9)).1
    refine ap_int rfl rfl (hS4.nx g2) (by omega) (by omega) (by omega) (fun X5 M5 p5 cap5 c5 s5 hS5 => ?_)
    refine wp_sound [53] 20 _ _ _ _ _ _ _ ?_
    have hE2 : TrE (T4 ++ digN w9) a b cc (ls ++ [(0, k, w9, 0)]) (k + 1) (0 + 0) (0 + 0) (14 + 11 * k + 11) := hE.snoc (l := (0, k, w9, 0)) ⟨by omega, by omega, by omega, by omega⟩ rfl (by subst hT4 hT3 hT2; show _ = T ++ (59 :: (wdL 1 ++ 32 :: (97 + k) :: 32 :: digN w9)); simp) (by show (59 :: (wdL 1 ++ 32 :: (97 + k) :: 32 :: digN w9)).length ≤ 11; rw [List.length_cons, List.length_append, List.length_cons, List.length_cons, List.length_cons]; have : (wdL 1).length = 4 := rfl; omega)
    refine GoP.eq2 (ih X5 M5 p5 cap5 _ _ _ _ (ls ++ [(0, k, w9, 0)]) L5 hS5 (by omega) (hE2.le (by omega))) ?_ rfl
    rw [i_inc]
theorem c_train (hmu : mu ≤ 4) (hsa : sa ≤ 9) (hX : X.length ≤ 2000) (hQ : TrQ Q hs f len M X.length mu sa) : EvP (RO9 hs len f) (d + 11) 367 [.int (Int32.ofNat mu), .int (Int32.ofNat sa), .ref 145] (gW 143 (.inl (1, 1) :: X)) M Q := by
  refine EvP.of rfl ?_
  refine g_new (n := 146 + X.length) (G2 := (gW 143 (.inl (1, 1) :: X)) ++ ([.inr (.inl (1, [.null, .int 0, .int 0, .int 0]))] : List sh)) rfl (by decide) gX_len (by omega) rfl ?_
  refine wp_sound [9] 20 _ _ _ _ _ _ _ ?_
  refine c_sbNew (o := 146 + X.length) (b := 146) (f := strF [116, 114, 97, 105, 110, 32]) (w := 6) gX_len (by omega) (by omega) st16 (fun j hj => ?_) (by omega) upM_at (fun G1 M1 p1 cap1 mc ms t1 f1 h1 h2 => ?_)
  · have : ∀ j, j < 6 → [116, 114, 97, 105, 110, 32].getD j 0 < 128 := by decide
    exact ⟨_, this j hj, rfl⟩
  obtain ⟨X1, rfl, hX1⟩ := gX_of (fun q hq => (f1.1 q hq).1) (by have := f1.2.1; rw [gX_len] at this; omega)
  have hl := f1.2.2
  rw [gX_len, gX_len] at hl
  have e6 : lstF (strF [116, 114, 97, 105, 110, 32]) 6 = [116, 114, 97, 105, 110, 32].map Int32.ofNat := lstF_str (L := [116, 114, 97, 105, 110, 32])
  rw [e6] at t1
  have hS1 : TrS X1 M1 M (146 + X.length) p1 cap1 [116, 114, 97, 105, 110, 32] X.length (0 + 1 + mc) (0 + (mdef 1).length + ms) 0 := ⟨t1, by omega, fun q hq => by rw [(f1.1 q (by omega)).2, upM_ne (by omega)], by omega, by rw [show (mdef 1).length = 4 from by decide]; omega, by decide⟩
  refine wp_sound [16] 20 _ _ _ _ _ _ _ ?_
  refine c_next (fun n1 M2 hn1 g1 => ?_)
  refine ⟨by decide, ?_⟩
  rw [show Int32.ofNat n1 - Int32.ofNat n1 / 100 * 100 = Int32.ofNat (n1 % 100) from rem_sub (k := 100) (by omega) (by omega) (by omega)]
  have x1 := Nat.mod_lt n1 (show 0 < 100 by omega)
  have d1 := dig_2 (n := n1 % 100) (by omega)
  refine ap_int rfl rfl (hS1.nx g1) (by omega) (by omega) (by decide) (fun X2 M2 p2 cap2 c2 s2 hS2 => ?_)
  have l2 : ([116, 114, 97, 105, 110, 32] ++ digN (n1 % 100)).length ≤ 8 := by rw [List.length_append]; show 6 + _ ≤ _; omega
  generalize hT2 : [116, 114, 97, 105, 110, 32] ++ digN (n1 % 100) = T2 at hS2 l2
  refine wp_sound [21] 20 _ _ _ _ _ _ _ ?_
  refine ap_chr (x := 32) rfl rfl hS2 (by omega) (by omega) (by omega) (fun X3 M3 p3 cap3 c3 s3 hS3 => ?_)
  have l3 : (T2 ++ [32]).length ≤ 9 := by rw [List.length_append]; show T2.length + 1 ≤ _; omega
  generalize hT3 : T2 ++ [32] = T3 at hS3 l3
  refine wp_sound [31] 20 _ _ _ _ _ _ _ ?_
  refine c_next (fun n2 M4 hn2 g2 => ?_)
  refine ⟨by decide, ?_⟩
  rw [show Int32.ofNat n2 - Int32.ofNat n2 / 51 * 51 = Int32.ofNat (n2 % 51) from rem_sub (k := 51) (by omega) (by omega) (by omega)]
  have x2 := Nat.mod_lt n2 (show 0 < 51 by omega)
  have d2 := dig_2 (n := n2 % 51) (by omega)
  refine ap_int rfl rfl (hS3.nx g2) (by omega) (by omega) (by omega) (fun X4 M4 p4 cap4 c4 s4 hS4 => ?_)
  have l4 : (T3 ++ digN (n2 % 51)).length ≤ 11 := by rw [List.length_append]; omega
  generalize hT4 : T3 ++ digN (n2 % 51) = T4 at hS4 l4
  refine wp_sound [36] 20 _ _ _ _ _ _ _ ?_
  refine ap_chr (x := 32) rfl rfl hS4 (by omega) (by omega) (by omega) (fun X5 M5 p5 cap5 c5 s5 hS5 => ?_)
  have l5 : (T4 ++ [32]).length ≤ 12 := by rw [List.length_append]; show T4.length + 1 ≤ _; omega
  generalize hT5 : T4 ++ [32] = T5 at hS5 l5
  refine wp_sound [46] 20 _ _ _ _ _ _ _ ?_
  refine c_next (fun n3 M6 hn3 g3 => ?_)
  refine ⟨by decide, ?_⟩
  rw [show Int32.ofNat n3 - Int32.ofNat n3 / 20 * 20 = Int32.ofNat (n3 % 20) from rem_sub (k := 20) (by omega) (by omega) (by omega)]
  have x3 := Nat.mod_lt n3 (show 0 < 20 by omega)
  have d3 := dig_2 (n := n3 % 20) (by omega)
  refine ap_int rfl rfl (hS5.nx g3) (by omega) (by omega) (by omega) (fun X6 M6 p6 cap6 c6 s6 hS6 => ?_)
  have hE : TrE (T5 ++ digN (n3 % 20)) (n1 % 100) (n2 % 51) (n3 % 20) [] 0 0 0 (14 + 11 * 0) := by
    refine ⟨?_, trivial, ⟨rfl, rfl, rfl⟩, rfl, by rw [List.length_append]; omega⟩
    subst hT5 hT4 hT3 hT2
    show _ = (wdL 0 ++ 32 :: (digN (n1 % 100) ++ 32 :: (digN (n2 % 51) ++ 32 :: digN (n3 % 20)))) ++ []
    simp [wdL]
  refine wp_sound [53] 20 _ _ _ _ _ _ _ ?_
  exact tr_mules ⟨by omega, by omega, by omega⟩ hmu hsa hQ 0 (by omega) X6 M6 p6 cap6 _ _ _ _ [] _ hS6 (by omega) hE
end TRM
