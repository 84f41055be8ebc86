/-! the law writes a train: its lines -/
theorem lnsT_app : ∀ (ls : List LN) (l : LN), lnsT (ls ++ [l]) = lnsT ls ++ lnS l := by
  intro ls
  induction ls with
  | nil => intro l; show lnS l ++ [] = [] ++ lnS l; simp
  | cons x ls ih => intro l; show lnS x ++ lnsT (ls ++ [l]) = _; rw [ih]; show _ = (lnS x ++ lnsT ls) ++ lnS l; rw [List.append_assoc]
theorem lns_app : ∀ (ls : List LN) (l : LN) (m S t : Nat), lnsOk m S t ls → lnOk (m + sumM ls) (S + sumK ls) (t + sumG ls) l → lnsOk m S t (ls ++ [l]) := by
  intro ls
  induction ls with
  | nil => intro l m S t _ h; exact ⟨h, trivial⟩
  | cons x ls ih =>
    intro l m S t h1 h2
    refine ⟨h1.1, ih l _ _ _ h1.2 ?_⟩
    rw [sumM, sumK, sumG, ← Nat.add_assoc, ← Nat.add_assoc, ← Nat.add_assoc] at h2
    exact h2
theorem sum_app : ∀ (ls : List LN) (l : LN), sumM (ls ++ [l]) = sumM ls + lnM l ∧ sumK (ls ++ [l]) = sumK ls + lnK l ∧ sumG (ls ++ [l]) = sumG ls + lnG l := by
  intro ls
  induction ls with
  | nil => intro l; exact ⟨by show lnM l + 0 = 0 + lnM l; omega, by show lnK l + 0 = 0 + lnK l; omega, by show lnG l + 0 = 0 + lnG l; omega⟩
  | cons x ls ih =>
    intro l
    obtain ⟨a, b, c⟩ := ih l
    refine ⟨?_, ?_, ?_⟩
    · show lnM x + sumM (ls ++ [l]) = lnM x + sumM ls + lnM l; omega
    · show lnK x + sumK (ls ++ [l]) = lnK x + sumK ls + lnK l; omega
    · show lnG x + sumG (ls ++ [l]) = lnG x + sumG ls + lnG l; omega
def TrE (T : List Nat) (a b cc : Nat) (ls : List LN) (m S t w : Nat) : Prop := T = trT a b cc ls ∧ lnsOk 0 0 0 ls ∧ (sumM ls = m ∧ sumK ls = S ∧ sumG ls = t) ∧ ls.length = m + S + t ∧ T.length ≤ w
theorem TrE.snoc {T T' : List Nat} {a b cc m S t w w' : Nat} {ls : List LN} {l : LN} (h : TrE T a b cc ls m S t w) (hl : lnOk m S t l) (h1 : lnM l + lnK l + lnG l = 1) (e : T' = T ++ lnS l) (hw : (lnS l).length ≤ w') : TrE T' a b cc (ls ++ [l]) (m + lnM l) (S + lnK l) (t + lnG l) (w + w') := by
  obtain ⟨e1, e2, ⟨e3, e4, e5⟩, e6, e7⟩ := h
  obtain ⟨q1, q2, q3⟩ := sum_app ls l
  refine ⟨?_, lns_app ls l 0 0 0 e2 (by rw [e3, e4, e5, Nat.zero_add, Nat.zero_add, Nat.zero_add]; exact hl), ⟨by omega, by omega, by omega⟩, by rw [List.length_append]; show ls.length + 1 = _; omega, by rw [e, List.length_append]; omega⟩
  rw [e, e1, trT, trT, lnsT_app, List.append_assoc]
theorem dig_2 {n : Nat} (h : n < 100) : (digN n).length ≤ 2 := by
  rw [digN]
  split
  · simp
  · simp
theorem TrE.le {T : List Nat} {a b cc m S t w w' : Nat} {ls : List LN} (h : TrE T a b cc ls m S t w) (hw : w ≤ w') : TrE T a b cc ls m S t w' := ⟨h.1, h.2.1, h.2.2.1, h.2.2.2.1, Nat.le_trans h.2.2.2.2 hw⟩
theorem GoP.eqs {RO : List mE} {d k pc c s : Nat} {L st st' : List Value} {G : List sh} {M : mM} {Q : mQ} (h : GoP RO d k L st G M pc c s Q) (e : st' = st) : GoP RO d k L st' G M pc c s Q := by rw [e]; exact h
section TRL
variable {hs f : Nat → Int32} {len d o p cap x0 c s n : Nat} {X : List sh} {M M0 : mM} {Q : mQ} {T : List Nat} {a b cc mu sa : Nat}
/-- what is said of the text written -/
def TrQ (Q : mQ) (hs f : Nat → Int32) (len : Nat) (M0 : mM) (x0 mu sa : Nat) : Prop := ∀ (X' : List sh) (M' : mM) (q : Nat) (fq : Nat → Int32) (a b cc : Nat) (ls : List LN) (mc ms : Nat), StrB 146 (gW 143 (.inl (1, 1) :: X')) M' q (trT a b cc ls).length fq → (∀ j, j < (trT a b cc ls).length → fq j = Int32.ofNat ((trT a b cc ls).getD j 0)) → a ≤ 99 ∧ b ≤ 50 ∧ cc ≤ 50 → lnsOk 0 0 0 ls → sumM ls = mu ∧ sumK ls = sa ∧ ls.length ≤ 600 → (∀ y ∈ trT a b cc ls, y < 128) → (trT a b cc ls).length ≤ 300 → (∀ q, q < 145 → M' q = M0 q) → X'.length ≤ x0 + 300 → mc ≤ 300 → ms ≤ 300000 → Q (.inl (some (.ref q))) (gW 143 (.inl (1, 1) :: X')) M' mc ms
theorem tr_end {ls : List LN} {t : Nat} {L4 L5 : Value} (hS : TrS X M M0 o p cap T x0 c s n) (hn : n ≤ 150) (hE : TrE T a b cc ls mu sa t 300) (ha : a ≤ 99 ∧ b ≤ 50 ∧ cc ≤ 50) (hmu : mu + sa + t ≤ 600) (hQ : TrQ Q hs f len M0 x0 mu sa) : GoP (RO9 hs len f) (d + 10) 367 [.int (Int32.ofNat mu), .int (Int32.ofNat sa), .ref 145, .ref o, L4, L5] [] (gW 143 (.inl (1, 1) :: X)) M 287 c s Q := by
  have hX := hS.2.1
  have hlen : (gW 143 (.inl (1, 1) :: X)).length < 800000 := by rw [gX_len]; omega
  refine wp_sound [288] 10 _ _ _ _ _ _ _ ?_
  refine g_call rfl rfl rfl (wrecv_v (wcls_o (hS.o_lt (by omega)) hS.1.2.1.1)) rfl ?_
  refine c_toStr (b := 146) hS.1 (by rw [gX_len]; omega) hlen (fun G1 M1 fq mc ms g1 g2 g3 h1 h2 => ?_)
  obtain ⟨X1, rfl, hX1⟩ := gX_of (fun q hq => (g3.1 q hq).1) (by have := g3.2.1; rw [gX_len] at this; omega)
  have hl := g3.2.2
  rw [gX_len, gX_len] at hl
  obtain ⟨e1, e2, e3, e4, e5⟩ := hE
  subst e1
  rw [List.length_map] at g1 g2
  refine wp_sound [] 10 _ _ _ _ _ _ _ ?_
  refine hQ X1 M1 _ fq a b cc ls _ _ g1 (fun j hj => ?_) ha e2 ⟨e3.1, e3.2.1, by omega⟩ hS.2.2.2.2.2 e5 (fun q hq => (g3.1 q (by omega)).2.trans (hS.2.2.1 q hq)) (by omega) (by have := hS.2.2.2.1; omega) (by have := hS.2.2.2.2.1; omega)
  rw [g2 j hj, List.getD_eq_getElem?_getD, List.getElem?_map, List.getElem?_eq_getElem hj, List.getD_eq_getElem?_getD, List.getElem?_eq_getElem hj]
  rfl
theorem stA (hs f : Nat → Int32) (len : Nat) : (∀ G M, StrA (RO9 hs len f) G M 1000034 (59 :: (wdL 1 ++ [32])).length (strF (59 :: (wdL 1 ++ [32])))) ∧ (∀ G M, StrA (RO9 hs len f) G M 1000036 (59 :: (wdL 2 ++ [32])).length (strF (59 :: (wdL 2 ++ [32])))) ∧ (∀ G M, StrA (RO9 hs len f) G M 1000046 (59 :: (wdL 3 ++ [32])).length (strF (59 :: (wdL 3 ++ [32])))) ∧ (∀ G M, StrA (RO9 hs len f) G M 1000048 (59 :: (wdL 4 ++ [32])).length (strF (59 :: (wdL 4 ++ [32])))) ∧ ∀ G M, StrA (RO9 hs len f) G M 1000104 (59 :: (wdL 5 ++ [32])).length (strF (59 :: (wdL 5 ++ [32]))) :=
  ⟨st17, st18, st23, st24, st52⟩
theorem stK {kd : Nat} (hk : kd < 4) (G : List sh) (M : mM) : StrA (RO9 hs len f) G M (1000038 + 2 * kd) (wdL (9 + kd)).length (strF (wdL (9 + kd))) := by
  rcases (show kd = 0 ∨ kd = 1 ∨ kd = 2 ∨ kd = 3 by omega) with rfl | rfl | rfl | rfl
  · exact st19 G M
  · exact st20 G M
  · exact st21 G M
  · exact st22 G M
theorem w128 : (∀ q, q < 15 → (wdL q).length ≤ 5 ∧ ∀ y ∈ wdL q, y < 128) ∧ ∀ q, q < 6 → ((59 :: (wdL q ++ [32])).length ≤ 7 ∧ ∀ y ∈ 59 :: (wdL q ++ [32]), y < 128) := by decide +kernel
theorem w6b : ∀ q, q < 6 → 1 ≤ q → ((59 :: (wdL q ++ [32])).length ≤ 6 ∧ ∀ y ∈ 59 :: (wdL q ++ [32]), y < 128) := by decide +kernel
theorem w6 (q : Nat) (h1 : 1 ≤ q) (h2 : q < 6) : ((59 :: (wdL q ++ [32])).length ≤ 6 ∧ ∀ y ∈ 59 :: (wdL q ++ [32]), y < 128) := w6b q h2 h1
theorem tr_stages (ha : a ≤ 99 ∧ b ≤ 50 ∧ cc ≤ 50) (hmu : mu ≤ 4) (hsa : sa ≤ 9) (hQ : TrQ Q hs f len M0 x0 mu sa) : ∀ j, j < 5 → ∀ (X : List sh) (M : mM) (p cap : Nat) (T : List Nat) (c s n t : Nat) (ls : List LN) (L5 : Value), t + j ≤ 4 → TrS X M M0 o p cap T x0 c s n → n ≤ 80 + 2 * t → TrE T a b cc ls mu sa t (211 + 8 * t) → GoP (RO9 hs len f) (d + 10) 367 [.int (Int32.ofNat mu), .int (Int32.ofNat sa), .ref 145, .ref o, .int (Int32.ofNat j), L5] [] (gW 143 (.inl (1, 1) :: X)) M 207 c s Q := by
  -- a line, and where it goes on
  have line : ∀ (j : Nat) (X : List sh) (M : mM) (p cap : Nat) (T : List Nat) (c s n t : Nat) (ls : List LN) (L5 : Value), t ≤ 4 → j < 5 → TrS X M M0 o p cap T x0 c s n → n ≤ 80 + 2 * t → TrE T a b cc ls mu sa t (211 + 8 * t) → (∀ (X : List sh) (M : mM) (p cap : Nat) (T : List Nat) (c s n : Nat) (ls : List LN) (L5 : Value), TrS X M M0 o p cap T x0 c s n → n ≤ 80 + 2 * (t + 1) → TrE T a b cc ls mu sa (t + 1) (211 + 8 * (t + 1)) → GoP (RO9 hs len f) (d + 10) 367 [.int (Int32.ofNat mu), .int (Int32.ofNat sa), .ref 145, .ref o, .int (Int32.ofNat j + -1), L5] [] (gW 143 (.inl (1, 1) :: X)) M 207 c s Q) → GoP (RO9 hs len f) (d + 10) 367 [.int (Int32.ofNat mu), .int (Int32.ofNat sa), .ref 145, .ref o, .int (Int32.ofNat j), L5] [] (gW 143 (.inl (1, 1) :: X)) M 207 c s Q := by
    intro j X M p cap T c s n t ls L5 ht hj hS hn hE hgo
    have hTl := hE.2.2.2.2
    refine wp_sound [244] 40 _ _ _ _ _ _ _ ?_
    refine nn_if (a := j) rfl (by omega) ?_
    refine c_next (fun n1 M1 hn1 g1 => ?_)
    refine ⟨by decide, ?_⟩
    rw [show Int32.ofNat n1 - Int32.ofNat n1 / 3 * 3 = Int32.ofNat (n1 % 3) from rem_sub (k := 3) (by omega) (by omega) (by omega)]
    have x1 := Nat.mod_lt n1 (show 0 < 3 by omega)
    generalize n1 % 3 = kd at x1
    have hS1 := hS.nx g1
    rcases (show kd = 0 ∨ kd = 1 ∨ kd = 2 by omega) with rfl | rfl | rfl
    · refine ⟨fun _ => ?_, fun h => absurd (by decide) h⟩
      refine ap_str rfl rfl hS1 (by omega) (w6 3 (by omega) (by omega)).1 (w6 3 (by omega) (by omega)).2 (stA hs f len |>.2.2.1) (by omega) (fun X2 M2 p2 cap2 c2 s2 hS2 => ?_)
      refine wp_sound [277] 40 _ _ _ _ _ _ _ ?_
      refine c_next (fun n2 M3 hn2 g2 => ?_)
      refine ⟨fun _ => ?_, fun h => absurd (by decide) h⟩
      refine ⟨by decide, ?_⟩
      rw [show Int32.ofNat n2 - Int32.ofNat n2 / 60 * 60 = Int32.ofNat (n2 % 60) from rem_sub (k := 60) (by omega) (by omega) (by omega)]
      have x2 := Nat.mod_lt n2 (show 0 < 60 by omega)
      have hl2 : (T ++ (59 :: (wdL 3 ++ [32]))).length ≤ 396 := by rw [List.length_append]; have := (w6 3 (by omega) (by omega)).1; omega
      refine GoP.eqs (st := [.int (Int32.ofNat (1 + n2 % 60)), .ref o]) ?_ (by rw [← i_add]; rfl)
      refine ap_int rfl rfl (hS2.nx g2) (by omega) (by omega) hl2 (fun X4 M4 p4 cap4 c4 s4 hS4 => ?_)
      refine wp_sound [207] 10 _ _ _ _ _ _ _ ?_
      refine hgo X4 M4 p4 cap4 _ _ _ _ (ls ++ [(2, 0, 1 + n2 % 60, 0)]) _ hS4 (by omega) ?_
      have hE2 : TrE (T ++ (59 :: (wdL 3 ++ [32])) ++ digN (1 + n2 % 60)) a b cc (ls ++ [(2, 0, 1 + n2 % 60, 0)]) (mu + 0) (sa + 0) (t + 1) (211 + 8 * t + 8) := hE.snoc (l := (2, 0, 1 + n2 % 60, 0)) ⟨by omega, by omega, by omega, by show 1 + n2 % 60 ≤ 99; omega⟩ rfl (by show _ = T ++ (59 :: (wdL 3 ++ 32 :: digN (1 + n2 % 60))); simp) (by show (59 :: (wdL 3 ++ 32 :: digN (1 + n2 % 60))).length ≤ 8; rw [List.length_cons, List.length_append, List.length_cons]; have h8 := dig_2 (n := 1 + n2 % 60) (by omega); have : (wdL 3).length = 4 := rfl; omega)
      exact hE2.le (by omega)
    · refine ⟨fun h => absurd h (by decide), fun _ => ?_⟩
      refine ⟨fun _ => ?_, fun h => absurd (by decide) h⟩
      refine ap_str rfl rfl hS1 (by omega) (w6 4 (by omega) (by omega)).1 (w6 4 (by omega) (by omega)).2 (stA hs f len |>.2.2.2.1) (by omega) (fun X2 M2 p2 cap2 c2 s2 hS2 => ?_)
      refine wp_sound [277] 40 _ _ _ _ _ _ _ ?_
      refine c_next (fun n2 M3 hn2 g2 => ?_)
      refine ⟨fun h => absurd h (by decide), fun _ => ?_⟩
      refine ⟨fun _ => ?_, fun h => absurd (by decide) h⟩
      refine ⟨by decide, ?_⟩
      rw [show Int32.ofNat n2 - Int32.ofNat n2 / 9 * 9 = Int32.ofNat (n2 % 9) from rem_sub (k := 9) (by omega) (by omega) (by omega)]
      have x2 := Nat.mod_lt n2 (show 0 < 9 by omega)
      have hl2 : (T ++ (59 :: (wdL 4 ++ [32]))).length ≤ 396 := by rw [List.length_append]; have := (w6 4 (by omega) (by omega)).1; omega
      refine GoP.eqs (st := [.int (Int32.ofNat (1 + n2 % 9)), .ref o]) ?_ (by rw [← i_add]; rfl)
      refine ap_int rfl rfl (hS2.nx g2) (by omega) (by omega) hl2 (fun X4 M4 p4 cap4 c4 s4 hS4 => ?_)
      refine wp_sound [207] 10 _ _ _ _ _ _ _ ?_
      refine hgo X4 M4 p4 cap4 _ _ _ _ (ls ++ [(2, 1, 1 + n2 % 9, 0)]) _ hS4 (by omega) ?_
      have hE2 : TrE (T ++ (59 :: (wdL 4 ++ [32])) ++ digN (1 + n2 % 9)) a b cc (ls ++ [(2, 1, 1 + n2 % 9, 0)]) (mu + 0) (sa + 0) (t + 1) (211 + 8 * t + 8) := hE.snoc (l := (2, 1, 1 + n2 % 9, 0)) ⟨by omega, by omega, by omega, by show 1 + n2 % 9 ≤ 9; omega⟩ rfl (by show _ = T ++ (59 :: (wdL 4 ++ 32 :: digN (1 + n2 % 9))); simp) (by show (59 :: (wdL 4 ++ 32 :: digN (1 + n2 % 9))).length ≤ 8; rw [List.length_cons, List.length_append, List.length_cons]; have h8 := dig_2 (n := 1 + n2 % 9) (by omega); have : (wdL 4).length = 4 := rfl; omega)
      exact hE2.le (by omega)
    · refine ⟨fun h => absurd h (by decide), fun _ => ?_⟩
      refine ⟨fun h => absurd h (by decide), fun _ => ?_⟩
      refine ap_str rfl rfl hS1 (by omega) (w6 5 (by omega) (by omega)).1 (w6 5 (by omega) (by omega)).2 (stA hs f len |>.2.2.2.2) (by omega) (fun X2 M2 p2 cap2 c2 s2 hS2 => ?_)
      refine wp_sound [277] 40 _ _ _ _ _ _ _ ?_
      refine c_next (fun n2 M3 hn2 g2 => ?_)
      refine ⟨fun h => absurd h (by decide), fun _ => ?_⟩
      refine ⟨fun h => absurd h (by decide), fun _ => ?_⟩
      refine ⟨by decide, ?_⟩
      rw [show Int32.ofNat n2 - Int32.ofNat n2 / 24 * 24 = Int32.ofNat (n2 % 24) from rem_sub (k := 24) (by omega) (by omega) (by omega)]
      have x2 := Nat.mod_lt n2 (show 0 < 24 by omega)
      have hl2 : (T ++ (59 :: (wdL 5 ++ [32]))).length ≤ 396 := by rw [List.length_append]; have := (w6 5 (by omega) (by omega)).1; omega
      refine GoP.eqs (st := [.int (Int32.ofNat (1 + n2 % 24)), .ref o]) ?_ (by rw [← i_add]; rfl)
      refine ap_int rfl rfl (hS2.nx g2) (by omega) (by omega) hl2 (fun X4 M4 p4 cap4 c4 s4 hS4 => ?_)
      refine wp_sound [207] 10 _ _ _ _ _ _ _ ?_
      refine hgo X4 M4 p4 cap4 _ _ _ _ (ls ++ [(2, 2, 1 + n2 % 24, 0)]) _ hS4 (by omega) ?_
      have hE2 : TrE (T ++ (59 :: (wdL 5 ++ [32])) ++ digN (1 + n2 % 24)) a b cc (ls ++ [(2, 2, 1 + n2 % 24, 0)]) (mu + 0) (sa + 0) (t + 1) (211 + 8 * t + 8) := hE.snoc (l := (2, 2, 1 + n2 % 24, 0)) ⟨by omega, by omega, by omega, by show 1 + n2 % 24 ≤ 24; omega⟩ rfl (by show _ = T ++ (59 :: (wdL 5 ++ 32 :: digN (1 + n2 % 24))); simp) (by show (59 :: (wdL 5 ++ 32 :: digN (1 + n2 % 24))).length ≤ 8; rw [List.length_cons, List.length_append, List.length_cons]; have h8 := dig_2 (n := 1 + n2 % 24) (by omega); have : (wdL 5).length = 4 := rfl; omega)
      exact hE2.le (by omega)
  intro j
  induction j with
  | zero =>
    intro _ X M p cap T c s n t ls L5 ht hS hn hE
    refine line 0 X M p cap T c s n t ls L5 (by omega) (by omega) hS hn hE (fun X M p cap T c s n ls L5 hS hn hE => ?_)
    refine wp_sound [287] 5 _ _ _ _ _ _ _ ?_
    refine ⟨fun _ => ?_, fun h => absurd (show (Int32.ofNat 0 + -1 : Int32) < 0 by decide) h⟩
    exact tr_end hS (by omega) (hE.le (by omega)) ha (by omega) hQ
  | succ j ih =>
    intro hj X M p cap T c s n t ls L5 ht hS hn hE
    refine line (j + 1) X M p cap T c s n t ls L5 (by omega) (by omega) hS hn hE (fun X M p cap T c s n ls L5 hS hn hE => ?_)
    rw [i_dec]
    exact ih (by omega) X M p cap T c s n (t + 1) ls L5 (by omega) hS hn hE
end TRL
