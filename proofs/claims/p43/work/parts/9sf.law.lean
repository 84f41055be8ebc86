/-! the law itself: its two trains -/
section LAW
variable {hs f : Nat → Int32} {len d : Nat} {X : List sh} {M : mM} {Q : mQ} {m S t : Nat} {N : Nat → Int32}
theorem law_go {q : Nat} {L5 L6 L7 L8 L9 L10 : Value} {c s : Nat} (h : GoP (RO9 hs len f) (d + 30) 375 [.ref 1000108, .ref 0, .ref 145, .int 1, .int (Int32.ofNat (q + 1)), L5, L6, L7, L8, L9, L10] [] (gW 143 (.inl (1, 1) :: X)) M 34 c s Q) : GoP (RO9 hs len f) (d + 30) 375 [.ref 1000108, .ref 0, .ref 145, .int 1, .int (Int32.ofNat q), L5, L6, L7, L8, L9, L10] [] (gW 143 (.inl (1, 1) :: X)) M 368 c s Q := by
  refine wp_sound [34] 10 _ _ _ _ _ _ _ ?_
  refine GoP.eq2 h ?_ rfl
  rw [i_inc]
/-- behind the ten acts -/
theorem law_tail {q sa : Nat} {bg : Int64} {L9 L10 : Value} {c s : Nat} (hq : q < 2) (hI7 : IU M N m S t 10 q bg) (hgo : ∀ (M8 : mM) (N8 : Nat → Int32) (m8 S8 t8 : Nat) (L8 : Value), LI M8 N8 m8 S8 t8 → GoP (RO9 hs len f) (d + 30) 375 [.ref 1000108, .ref 0, .ref 145, .int 1, .int (Int32.ofNat q), .int (Int32.ofNat sa), .long bg, .retAddr 0, L8, L9, L10] [] (gW 143 (.inl (1, 1) :: X)) M8 368 c s Q) : GoP (RO9 hs len f) (d + 30) 375 [.ref 1000108, .ref 0, .ref 145, .int 1, .int (Int32.ofNat q), .int (Int32.ofNat sa), .long bg, .retAddr 0, .int (Int32.ofNat 10), L9, L10] [] (gW 143 (.inl (1, 1) :: X)) M 122 c s Q := by
  refine wp_sound [368] 60 _ _ _ _ _ _ _ ?_
  refine lt_if (a := 10) (b := 10) rfl rfl (by omega) (by omega) (fun h => absurd h (by omega)) (fun _ => ?_)
  refine ⟨fun h => absurd h (by decide), fun _ => ?_⟩
  refine c_next (fun n3 M7 hn3 g3 => ?_)
  have hI8 := hI7.L hq (FrL.nx g3)
  refine ⟨by decide, ?_⟩
  rw [show Int32.ofNat n3 - Int32.ofNat n3 / 2 * 2 = Int32.ofNat (n3 % 2) from rem_sub (k := 2) (by omega) (by omega) (by omega)]
  have x3 := Nat.mod_lt n3 (show 0 < 2 by omega)
  refine eq_if (a := n3 % 2) (b := 0) rfl rfl (by omega) (by omega) (fun _ => ?_) (fun _ => hgo _ _ _ _ _ _ hI8.1)
  obtain ⟨⟨⟨a1, a2, a3, a4⟩, ⟨nx, ch, hH⟩, hT8, hf8⟩, _, Nb, Sb, tb', k1, k2, k3, k4, k5⟩ := id hI8
  refine q_restore hT8 hH hq k2 k1 (fun M8 t8 f8 => ?_)
  rw [k3]
  refine ⟨fun _ => ?_, fun h => absurd rfl h⟩
  refine (c_sum t8 k4).use ?_
  rw [k5]
  refine ⟨fun _ => ?_, fun h => absurd (lg_0 _) h⟩
  obtain ⟨nx8, c8, y1, y2, y3⟩ := his_new hT8 hH f8
  subst k5
  exact hgo _ Nb m Sb tb' _ ⟨⟨wid_fr a1 (fun j x y => f8.far (by omega) hH.1), wid_fr a2 (fun j x y => f8.far (by omega) hH.1), wid_fr a3 (fun j x y => f8.far (by omega) hH.1), wid_fr a4 (fun j x y => f8.far (by omega) hH.1)⟩, ⟨nx8, c8, y1⟩, t8, by rw [f8.far (by omega) hH.1]; exact hf8⟩
/-- what is saved of a new train -/
theorem sav_IU {q sa tt mu : Nat} {N5 : Nat → Int32} {M5 : mM} (hq : q < 2) (hI5 : LI M5 N5 mu sa tt) (hR5 : rOk N5 mu sa tt) (hv5 : vOk N5 sa) (hd5 : N5 6 = 0) : TrN (savC M5 q) 12 N5 mu sa tt ∧ IU (savC M5 q) N5 mu sa tt 0 q (sumL N5 mu sa tt) := by
  have w5 : widOk M5 (22 + 9 * q) := by
    rcases (show q = 0 ∨ q = 1 by omega) with h | h
    · rw [h]; exact hI5.1.2.1
    · rw [h]; exact hI5.1.2.2.1
  have far : ∀ j, (j < 22 + 9 * q ∨ 22 + 9 * q + 8 < j) → j ≠ 141 → savC M5 q j = M5 j := fun j x y => by rw [savC, upM_ne y, becM_far (by omega)]
  have tb := TrN_bec (x := 22 + 9 * q) hI5.2.2.1 w5.1 w5.2.1 w5.2.2
  have tb2 : TrN (savC M5 q) (22 + 9 * q) N5 mu sa tt := TrN_fr tb (fun j x y => by rw [savC, upM_ne (by omega)])
  have t12 : TrN (savC M5 q) 12 N5 mu sa tt := TrN_fr hI5.2.2.1 (fun j x y => far j (by omega) (by omega))
  have s141 : savC M5 q 141 q = 1 := by rw [savC, upM_at, upd_at]; decide +kernel
  have wq : widOk (savC M5 q) 22 ∧ widOk (savC M5 q) 31 := by
    rcases (show q = 0 ∨ q = 1 by omega) with h | h
    · subst h
      exact ⟨TrN_wid tb2, wid_fr hI5.1.2.2.1 (fun j x y => far j (by omega) (by omega))⟩
    · subst h
      exact ⟨wid_fr hI5.1.2.1 (fun j x y => far j (by omega) (by omega)), TrN_wid tb2⟩
  obtain ⟨⟨a1, a2, a3, a4⟩, ⟨nx, ch, hH⟩, _, hf⟩ := hI5
  exact ⟨t12, ⟨⟨wid_fr a1 (fun j x y => far j (by omega) (by omega)), wq.1, wq.2, wid_fr a4 (fun j x y => far j (by omega) (by omega))⟩, ⟨nx, ch, his_fr hH (fun j x y => far j (by omega) (by omega))⟩, t12, by rw [far 1 (by omega) (by omega)]; exact hf⟩, ⟨hR5, hv5, 0, hd5, Nat.le_refl _⟩, N5, sa, tt, tb2, s141, hd5, hR5, rfl⟩
/-- a train drawn, loaded, saved -/
theorem law_65 {q c s : Nat} {L5 L6 L7 L8 L9 L10 : Value} (hq : q < 2) (hI : LI M N m S t) (hX : X.length ≤ 1000) (hgo : ∀ (X' : List sh) (M' : mM) (N' : Nat → Int32) (mu sa tt : Nat) (bg : Int64) (c' s' : Nat), 0 < mu → IU M' N' mu sa tt 0 q bg → X'.length ≤ X.length + 301 → c' ≤ c + 305 → s' ≤ s + 300100 → GoP (RO9 hs len f) (d + 30) 375 [.ref 1000108, .ref 0, .ref 145, .int 1, .int (Int32.ofNat q), .int (Int32.ofNat sa), .long bg, .retAddr 0, .int (Int32.ofNat 0), L9, L10] [] (gW 143 (.inl (1, 1) :: X')) M' 122 c' s' Q) : GoP (RO9 hs len f) (d + 30) 375 [.ref 1000108, .ref 0, .ref 145, .int 1, .int (Int32.ofNat q), L5, L6, L7, L8, L9, L10] [] (gW 143 (.inl (1, 1) :: X)) M 65 c s Q := by
  refine wp_sound [122] 90 _ _ _ _ _ _ _ ?_
  refine c_next (fun n1 M2 hn1 g1 => ?_)
  refine ⟨by decide, ?_⟩
  rw [show Int32.ofNat n1 - Int32.ofNat n1 / 10 * 10 = Int32.ofNat (n1 % 10) from rem_sub (k := 10) (by omega) (by omega) (by omega)]
  have x1 := Nat.mod_lt n1 (show 0 < 10 by omega)
  generalize n1 % 10 = sa at x1
  refine c_next (fun n2 M3 hn2 g2 => ?_)
  refine ⟨by decide, ?_⟩
  rw [show Int32.ofNat n2 - Int32.ofNat n2 / 4 * 4 = Int32.ofNat (n2 % 4) from rem_sub (k := 4) (by omega) (by omega) (by omega)]
  have x2 := Nat.mod_lt n2 (show 0 < 4 by omega)
  refine c_trainZ (mu := 1 + n2 % 4) (i_add 1 (n2 % 4)) (by omega) (by omega) (by omega) (fun X4 M4 qq fq a b cc ls mc ms p1 p2 p3 p4 p5 p6 p7 p8 p9 p10 p11 => ?_)
  have hI4 : LI M4 N m S t := hI.fr (fun j hj => by rw [p8 j hj, g2 j (by omega), g1 j (by omega)])
  refine w_load p1 p2 p6 p7 p3 p4 p5.2.2 (by omega) hI4 (fun M5 N5 hI5 hP5 z0 z1 => ?_)
  obtain ⟨hR5, hv5, hd5, _⟩ := hP5
  have hmu : 0 < sumM ls := by rw [p5.1]; omega
  rw [← p5.2.1]
  refine ⟨fun _ => ?_, fun h => absurd rfl h⟩
  have w5 : widOk M5 (22 + 9 * q) := by
    rcases (show q = 0 ∨ q = 1 by omega) with h | h
    · rw [h]; exact hI5.1.2.1
    · rw [h]; exact hI5.1.2.2.1
  refine (q_save hI5.2.2.1 hq w5 z0 z1).use ?_
  refine ⟨fun _ => ?_, fun h => absurd (by decide) h⟩
  obtain ⟨t12, hI6⟩ := sav_IU hq hI5 hR5 hv5 hd5
  refine (c_sum t12 hR5).use ?_
  exact hgo _ _ N5 (sumM ls) (sumK ls) (sumG ls) _ _ _ hmu hI6 (by rw [List.length_append]; show X4.length + 1 ≤ _; omega) (by omega) (by omega)
set_option maxRecDepth 8000 in
/-- one train of the two -/
theorem law_q (hlen : len ≤ 100000) (hQ : ∀ (G' : List sh) (M' : mM) (mc ms : Nat), mc ≤ 2000 → ms ≤ 800000 → Q (.inl (some (.int 1))) G' M' mc ms) : ∀ q, q ≤ 2 → ∀ (X : List sh) (M : mM) (N : Nat → Int32) (m S t : Nat) (L5 L6 L7 L8 L9 L10 : Value) (c s : Nat), LI M N m S t → X.length ≤ 310 * q → c ≤ 150 + 450 * q → s ≤ 5000 + 310000 * q → GoP (RO9 hs len f) (d + 30) 375 [.ref 1000108, .ref 0, .ref 145, .int 1, .int (Int32.ofNat q), L5, L6, L7, L8, L9, L10] [] (gW 143 (.inl (1, 1) :: X)) M 34 c s Q := by
  refine up_ind (S := 2) (H := fun q => ∀ (X : List sh) (M : mM) (N : Nat → Int32) (m S t : Nat) (L5 L6 L7 L8 L9 L10 : Value) (c s : Nat), LI M N m S t → X.length ≤ 310 * q → c ≤ 150 + 450 * q → s ≤ 5000 + 310000 * q → GoP (RO9 hs len f) (d + 30) 375 [.ref 1000108, .ref 0, .ref 145, .int 1, .int (Int32.ofNat q), L5, L6, L7, L8, L9, L10] [] (gW 143 (.inl (1, 1) :: X)) M 34 c s Q) ?_ (fun q hq ih => ?_)
  · intro X M N m S t L5 L6 L7 L8 L9 L10 c s hI hX hc hs9
    refine wp_sound [] 20 _ _ _ _ _ _ _ ?_
    refine lt_if (a := 2) (b := 2) rfl rfl (by omega) (by omega) (fun h => absurd h (by omega)) (fun _ => ?_)
    exact ⟨by decide +kernel, hQ _ _ _ _ (by omega) (by omega)⟩
  · intro X M N m S t L5 L6 L7 L8 L9 L10 c s hI hX hc hs9
    have r65 : ∀ M1 : mM, (∀ j, j < 145 → M1 j = M j) → GoP (RO9 hs len f) (d + 30) 375 [.ref 1000108, .ref 0, .ref 145, .int 1, .int (Int32.ofNat q), L5, L6, L7, L8, L9, L10] [] (gW 143 (.inl (1, 1) :: X)) M1 65 c s Q := by
      intro M1 e1
      refine law_65 hq (hI.fr e1) (by omega) (fun X' M' N' mu sa tt bg c' s' hmu hI6 hX' hc' hs' => ?_)
      refine up_ind (S := 10) (H := fun u => ∀ (M : mM) (N : Nat → Int32) (S t : Nat) (L9 L10 : Value) (c9 s9 : Nat), IU M N mu S t u q bg → c9 ≤ c' + 12 * u → s9 ≤ s' + 80 * u → GoP (RO9 hs len f) (d + 30) 375 [.ref 1000108, .ref 0, .ref 145, .int 1, .int (Int32.ofNat q), .int (Int32.ofNat sa), .long bg, .retAddr 0, .int (Int32.ofNat u), L9, L10] [] (gW 143 (.inl (1, 1) :: X')) M 122 c9 s9 Q) (fun M6 N6 S6 t6 L9 L10 c9 s9 hI7 hc9 hs99 => ?_) (fun u hu ih2 M6 N6 S6 t6 L9 L10 c9 s9 hI7 hc9 hs99 => law_u (c0 := c') (s0 := s') hq hu hmu ih2 M6 N6 S6 t6 L9 L10 c9 s9 hI7 hc9 hs99) 0 (Nat.zero_le _) M' N' sa tt L9 L10 c' s' hI6 (Nat.le_add_right _ _) (Nat.le_add_right _ _)
      exact law_tail hq hI7 (fun M8 N8 m8 S8 t8 L8 h8 => law_go (ih X' M8 N8 m8 S8 t8 _ _ _ _ _ _ c9 s9 h8 (by omega) (by omega) (by omega)))
    refine wp_sound [58, 65] 40 _ _ _ _ _ _ _ ?_
    refine lt_if (a := q) (b := 2) rfl rfl (by omega) (by omega) (fun _ => ?_) (fun h => absurd h (by omega))
    refine ⟨fun h => absurd h (by decide), fun _ => ?_⟩
    refine ⟨0, rfl, by omega, ?_⟩
    refine lt_if (a := q) (b := len) rfl rfl (by omega) (by omega) (fun h9 => ?_) (fun h9 => ?_)
    · refine g_iald (n := len) (f := f) rfl rfl (by omega) (j := q) rfl h9 ?_
      refine wp_sound [65] 10 _ _ _ _ _ _ _ ?_
      refine ⟨0, rfl, by omega, ?_⟩
      exact r65 _ (fun j hj => upM_ne (by omega))
    · refine ⟨0, rfl, by omega, ?_⟩
      exact r65 _ (fun j hj => upM_ne (by omega))
end LAW
