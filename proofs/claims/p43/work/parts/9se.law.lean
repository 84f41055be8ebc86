/-! the law itself -/
theorem lg_0 (x : Int64) : lg_cmp x x = 0 := by
  unfold lg_cmp
  simp
theorem LI.fr {M M' : mM} {N : Nat → Int32} {m S t : Nat} (hI : LI M N m S t) (h : ∀ q, q < 145 → M' q = M q) : LI M' N m S t := by
  obtain ⟨⟨a1, a2, a3, a4⟩, ⟨nx, c, b⟩, hT, f⟩ := hI
  exact ⟨⟨wid_fr a1 (fun q x y => h q (by omega)), wid_fr a2 (fun q x y => h q (by omega)), wid_fr a3 (fun q x y => h q (by omega)), wid_fr a4 (fun q x y => h q (by omega))⟩, ⟨nx, c, his_fr b (fun q x y => h q (by omega))⟩, TrN_fr hT (fun q x y => h q (by omega)), by rw [h 1 (by omega)]; exact f⟩
/-- what holds while a train is acted on -/
def IU (M : mM) (N : Nat → Int32) (m S t u q : Nat) (bg : Int64) : Prop := LI M N m S t ∧ (rOk N m S t ∧ vOk N S ∧ ∃ D, N 6 = Int32.ofNat D ∧ D ≤ 9 * u) ∧ ∃ (Nb : Nat → Int32) (Sb tb : Nat), TrN M (22 + 9 * q) Nb m Sb tb ∧ M 141 q = 1 ∧ Nb 6 = 0 ∧ rOk Nb m Sb tb ∧ bg = sumL Nb m Sb tb
theorem IU.L {M M' : mM} {N : Nat → Int32} {m S t u q : Nat} {bg : Int64} (hq : q < 2) (hI : IU M N m S t u q bg) (h : FrL M M') : IU M' N m S t u q bg := by
  obtain ⟨⟨⟨a1, a2, a3, a4⟩, ⟨nx, c, b⟩, hT, f⟩, r, Nb, Sb, tb, k1, k2, k3⟩ := hI
  have e : ∀ j, (j < 40 ∨ 48 < j) → j < 144 → M' j = M j := fun j x y => h.1 j x (by omega) (by omega)
  exact ⟨⟨⟨wid_fr a1 (fun q x y => e q (by omega) (by omega)), wid_fr a2 (fun q x y => e q (by omega) (by omega)), wid_fr a3 (fun q x y => e q (by omega) (by omega)), h.wid a4⟩, ⟨nx, c, h.his b⟩, h.Tr hT, by rw [e 1 (by omega) (by omega)]; exact f⟩, r, Nb, Sb, tb, TrN_fr k1 (fun j x y => e j (by omega) (by omega)), by rw [e 141 (by omega) (by omega)]; exact k2, k3⟩
theorem IU.act {M M' : mM} {N N' : Nat → Int32} {m S t S' t' u q D : Nat} {bg : Int64} (hq : q < 2) (hI : IU M N m S t u q bg) (hD9 : D ≤ 9 * u) (h : actE M M' N m S t N' S' t' D) : IU M' N' m S' t' (u + 1) q bg := by
  obtain ⟨⟨⟨a1, a2, a3, a4⟩, ⟨nx, c, b⟩, hT, f⟩, r, Nb, Sb, tb, k1, k2, k3⟩ := hI
  obtain ⟨h1, ⟨h2, h3, D', h4, h5⟩, h6, ⟨nx', c', h7, h8, h9⟩, hF⟩ := h
  exact ⟨⟨⟨wid_fr a1 (fun q x y => hF q (by omega)), wid_fr a2 (fun q x y => hF q (by omega)), wid_fr a3 (fun q x y => hF q (by omega)), h6⟩, ⟨nx', c', h7⟩, h1, by rw [hF 1 (by omega)]; exact f⟩, ⟨h2, h3, D', h4, by omega⟩, Nb, Sb, tb, TrN_fr k1 (fun j x y => hF j (by omega)), by rw [hF 141 (by omega)]; exact k2, k3⟩
/-- undone: the train before is back -/
theorem IU.und {M M0 : mM} {N N' : Nat → Int32} {m S t S' t' u q nx c : Nat} {bg : Int64} (hq : q < 2) (hI : IU M N' m S' t' u q bg) (hr : rOk N m S t ∧ vOk N S ∧ ∃ D, N 6 = Int32.ofNat D ∧ D ≤ 9 * u) (hH : I_his M nx c) (hc : 0 < c) (hK : TrN M (51 + 9 * laN nx) N m S t) : IU (bakM M nx c) N m S t u q bg := by
  obtain ⟨⟨⟨a1, a2, a3, a4⟩, _, hT, f⟩, _, Nb, Sb, tb, k1, k2, k3⟩ := hI
  obtain ⟨b1, b2, b3, b4, b5⟩ := hH
  have hl : laN nx < 10 := by unfold laN; split <;> omega
  have e : ∀ j, (j < 12 ∨ 20 < j) → j ≠ 49 → bakM M nx c j = M j := fun j x y => by rw [bakM, upM_ne y, becM_far (by omega)]
  have w := TrN_wid hT
  have t1 := TrN_bec (x := 12) hK w.1 w.2.1 w.2.2
  have t2 : TrN (bakM M nx c) 12 N m S t := TrN_fr t1 (fun j x y => by rw [bakM, upM_ne (by omega)])
  refine ⟨⟨⟨wid_fr a1 (fun q x y => e q (by omega) (by omega)), wid_fr a2 (fun q x y => e q (by omega) (by omega)), wid_fr a3 (fun q x y => e q (by omega) (by omega)), wid_fr a4 (fun q x y => e q (by omega) (by omega))⟩, ⟨laN nx, c - 1, hl, by omega, ?_, ?_, fun i hi => wid_fr (b5 i hi) (fun q x y => e q (by omega) (by omega))⟩, t2, by rw [e 1 (by omega) (by omega)]; exact f⟩, hr, Nb, Sb, tb, TrN_fr k1 (fun j x y => e j (by omega) (by omega)), by rw [e 141 (by omega) (by omega)]; exact k2, k3⟩
  · rw [bakM, upM_at, upd_ne (by omega)]; exact upd_at
  · rw [bakM, upM_at]; exact upd_at
section LAW
variable {hs f : Nat → Int32} {len d : Nat} {X : List sh} {M : mM} {Q : mQ} {m S t : Nat} {N : Nat → Int32}
theorem out_s (hT : TrN M 12 N m S t) (hS : S ≤ 16) : inB 16 0 (N 4 - 1) = false ∧ inB (-1) 0 (N 4 - 1) = false :=
  ⟨inB_out (n := S) (by omega) hT.1.2.1 (Or.inr (by rw [show (16 : Int32) = Int32.ofNat 16 from rfl, i_lt (by omega) (by omega)]; omega)), inB_lo (by decide)⟩
/-- one act of the ten -/
theorem law_u {q u c0 s0 : Nat} {cnt : Int32} {bg : Int64} (hq : q < 2) (hu : u < 10) (hm1 : 0 < m) (ih : ∀ (M : mM) (N : Nat → Int32) (S t : Nat) (L9 L10 : Value) (c s : Nat), IU M N m S t (u + 1) q bg → c ≤ c0 + 12 * (u + 1) → s ≤ s0 + 80 * (u + 1) → GoP (RO9 hs len f) (d + 30) 375 [.ref 1000108, .ref 0, .ref 145, .int 1, .int (Int32.ofNat q), .int cnt, .long bg, .retAddr 0, .int (Int32.ofNat (u + 1)), L9, L10] [] (gW 143 (.inl (1, 1) :: X)) M 122 c s Q) (M : mM) (N : Nat → Int32) (S t : Nat) (L9 L10 : Value) (c s : Nat) (hI : IU M N m S t u q bg) (hc : c ≤ c0 + 12 * u) (hs9 : s ≤ s0 + 80 * u) : GoP (RO9 hs len f) (d + 30) 375 [.ref 1000108, .ref 0, .ref 145, .int 1, .int (Int32.ofNat q), .int cnt, .long bg, .retAddr 0, .int (Int32.ofNat u), L9, L10] [] (gW 143 (.inl (1, 1) :: X)) M 122 c s Q := by
  obtain ⟨hLI, ⟨hR, hv, D, hD, hD9⟩, hb⟩ := id hI
  obtain ⟨⟨a1, a2, a3, hw⟩, ⟨nx, ch, hH⟩, hT, hf⟩ := id hLI
  have hS := hR.1.1.2.2.2.2.1
  have hm := hR.1.1.2.2.2.1
  have ht := hR.1.1.2.2.2.2.2.1
  obtain ⟨o1, o2⟩ := out_s hT hS
  have hsum := fun d => c_sum (RO := RO9 hs len f) (d := d) (X := X) hT hR
  refine wp_sound [255] 200 _ _ _ _ _ _ _ ?_
  refine lt_if (a := u) (b := 10) rfl rfl (by omega) (by omega) (fun _ => ?_) (fun h => absurd h (by omega))
  refine ⟨fun h => absurd h (by decide), fun _ => ?_⟩
  refine (hsum _).use ?_
  refine w_packed hT hR hH (wCh.no (k := 1) (x := 0) (z := -5) (by rw [u_pack, o1]; rfl) (by decide) (by decide) ?_)
  refine ⟨fun _ => ?_, fun h => absurd (by decide) h⟩
  refine w_unpacked hT hR hH (wCh.no (k := 1) (x := 0) (z := -5) (by rw [u_unpack, o2]; rfl) (by decide) (by decide) ?_)
  refine ⟨fun _ => ?_, fun h => absurd (by decide) h⟩
  refine w_filled hT hR hH (wCh.no (k := 1) (x := 0) (z := -5) (by rw [u_fill, inB_out (v := 6) (n := m) (by omega) hT.1.1 (Or.inr (by rw [show (6 : Int32) = Int32.ofNat 6 from rfl, i_lt (by omega) (by omega)]; omega))]; rfl) (by decide) (by decide) ?_)
  refine ⟨fun _ => ?_, fun h => absurd (by decide) h⟩
  refine w_shifted hT hR hH (wCh.no (k := 1) (x := 0) (z := -5) (by rw [u_shift, o1]; rfl) (by decide) (by decide) ?_)
  refine ⟨fun _ => ?_, fun h => absurd (by decide) h⟩
  refine w_rested hT hR hH (wCh.no (k := 1) (x := 0) (z := -2) (by rw [u_rest, show inB 0 1 99 = false from by decide]; rfl) (by decide) (by decide) ?_)
  refine ⟨fun _ => ?_, fun h => absurd (by decide) h⟩
  refine w_added hT hR hH (wCh.no (k := 1) (x := 0) (z := -2) (by rw [u_addSack, show inB 4 0 3 = false from by decide]; rfl) (by decide) (by decide) ?_)
  refine ⟨fun _ => ?_, fun h => absurd (by decide) h⟩
  refine w_staged hT hR hH (wCh.no (k := 1) (x := 0) (z := -2) (by rw [u_addStage, show inB 0 0 2 = true from by decide, show inB 0 1 (mostS 0) = false from by decide]; rfl) (by decide) (by decide) ?_)
  refine ⟨fun _ => ?_, fun h => absurd (by decide) h⟩
  refine w_dropped hT hR hH (wCh.no (k := 1) (x := 0) (z := -5) (by rw [u_drop, inB_out (v := 8) (n := t) (by omega) hT.1.2.2.1 (Or.inr (by rw [show (8 : Int32) = Int32.ofNat 8 from rfl, i_lt (by omega) (by omega)]; omega))]; rfl) (by decide) (by decide) ?_)
  refine ⟨fun _ => ?_, fun h => absurd (by decide) h⟩
  refine w_setTo hT hR hH (wCh.no (k := 1) (x := 0) (z := -2) (by rw [u_set, show inB 0 0 2 = true from by decide, show inB 100 0 (mostT 0) = false from by decide]; rfl) (by decide) (by decide) ?_)
  refine ⟨fun _ => ?_, fun h => absurd (by decide) h⟩
  refine (hsum _).use ?_
  refine ⟨fun _ => ?_, fun h => absurd (lg_0 _) h⟩
  refine wp_sound [287] 40 _ _ _ _ _ _ _ ?_
  refine ⟨fun h => absurd h (by decide), fun _ => ?_⟩
  refine c_act hT hR hv hw hH hD (by omega) hm1 (fun M1 mc ms N1 S1 t1 hE h1 h2 => ?_)
  have hI1 := hI.act hq hD9 hE
  refine ⟨fun h => absurd h (by decide), fun _ => ?_⟩
  refine c_mules hI1.1.2.2.1 hI1.2.1.1 hI1.2.1.2.1 hI1.1.1.2.2.2 (fun M2 f2 => ?_)
  have hI2 := hI1.L hq f2.L
  refine ⟨fun h => absurd h (by decide), fun _ => ?_⟩
  refine c_sacks hI2.1.2.2.1 hI2.2.1.1 hI2.2.1.2.1 hI2.1.1.2.2.2 (fun M3 f3 => ?_)
  have hI3 := hI2.L hq f3.L
  refine ⟨fun h => absurd h (by decide), fun _ => ?_⟩
  refine wp_sound [324] 60 _ _ _ _ _ _ _ ?_
  refine ⟨fun h => absurd h (by decide), fun _ => ?_⟩
  refine c_next (fun n1 M4 hn1 g1 => ?_)
  have f4 := (f2.L.trans f3.L).trans (FrL.nx g1)
  have hI4 := hI1.L hq f4
  refine ⟨by decide, ?_⟩
  rw [show Int32.ofNat n1 - Int32.ofNat n1 / 4 * 4 = Int32.ofNat (n1 % 4) from rem_sub (k := 4) (by omega) (by omega) (by omega)]
  have x1 := Nat.mod_lt n1 (show 0 < 4 by omega)
  refine eq_if (a := n1 % 4) (b := 0) rfl rfl (by omega) (by omega) (fun _ => ?_) (fun _ => ?_)
  · obtain ⟨nx', c', z1, z2, z3⟩ := hE.2.2.2.1
    have z1' := f4.his z1
    have hla : laN nx' < 10 := by have := z1.1; unfold laN; split <;> omega
    have z3' : TrN M4 (51 + 9 * laN nx') N m S t := TrN_fr z3 (fun j x y => f4.1 j (by omega) (by omega) (by omega))
    have hI5 := IU.und (M0 := M4) hq hI4 ⟨hR, hv, D, hD, by omega⟩ z1' z2 z3'
    refine (w_undone hI4.1.2.2.1 z1' z2 z3').use ?_
    refine nn_if (a := c' - 1) rfl (by have := z1.2.1; omega) ?_
    refine (c_sum hI5.1.2.2.1 hR).use ?_
    refine ⟨fun _ => ?_, fun h => absurd (lg_0 _) h⟩
    refine wp_sound [122] 20 _ _ _ _ _ _ _ ?_
    refine GoP.eq2 (ih _ N S t (.long (sumL N m S t)) (.retAddr 0) _ _ hI5 (by omega) (by omega)) ?_ rfl
    rw [i_inc]
  · refine wp_sound [122] 20 _ _ _ _ _ _ _ ?_
    refine GoP.eq2 (ih _ N1 S1 t1 (.long (sumL N m S t)) (.retAddr 0) _ _ hI4 (by omega) (by omega)) ?_ rfl
    rw [i_inc]
theorem c_trainZ {z : Int32} {mu sa : Nat} (hz : z = Int32.ofNat mu) (hmu : mu ≤ 4) (hsa : sa ≤ 9) (hX : X.length ≤ 2000) (hQ : TrQ Q hs f len M X.length mu sa) : EvP (RO9 hs len f) (d + 11) 367 [.int z, .int (Int32.ofNat sa), .ref 145] (gW 143 (.inl (1, 1) :: X)) M Q := by
  subst hz
  exact c_train hmu hsa hX hQ
/-- one train of the two -/
theorem law_q (hlen : len ≤ 100000) (hQ : ∀ (G' : List sh) (M' : mM) (mc ms : Nat), mc ≤ 2000 → ms ≤ 800000 → Q (.inl (some (.int 1))) G' M' mc ms) : ∀ q, q ≤ 2 → ∀ (X : List sh) (M : mM) (N : Nat → Int32) (m S t : Nat) (L5 L6 L7 L8 L9 L10 : Value) (c s : Nat), LI M N m S t → X.length ≤ 310 * q → c ≤ 150 + 450 * q → s ≤ 5000 + 310000 * q → GoP (RO9 hs len f) (d + 30) 375 [.ref 1000108, .ref 0, .ref 145, .int 1, .int (Int32.ofNat q), L5, L6, L7, L8, L9, L10] [] (gW 143 (.inl (1, 1) :: X)) M 34 c s Q := by
  refine up_ind (S := 2) (H := fun q => ∀ (X : List sh) (M : mM) (N : Nat → Int32) (m S t : Nat) (L5 L6 L7 L8 L9 L10 : Value) (c s : Nat), LI M N m S t → X.length ≤ 310 * q → c ≤ 150 + 450 * q → s ≤ 5000 + 310000 * q → GoP (RO9 hs len f) (d + 30) 375 [.ref 1000108, .ref 0, .ref 145, .int 1, .int (Int32.ofNat q), L5, L6, L7, L8, L9, L10] [] (gW 143 (.inl (1, 1) :: X)) M 34 c s Q) ?_ (fun q hq ih => ?_)
  · intro X M N m S t L5 L6 L7 L8 L9 L10 c s hI hX hc hs9
    refine wp_sound [] 20 _ _ _ _ _ _ _ ?_
    refine lt_if (a := 2) (b := 2) rfl rfl (by omega) (by omega) (fun h => absurd h (by omega)) (fun _ => ?_)
    exact ⟨by decide +kernel, hQ _ _ _ _ (by omega) (by omega)⟩
  · intro X M N m S t L5 L6 L7 L8 L9 L10 c s hI hX hc hs9
    -- from the drawing of a train on
    have r65 : ∀ M1 : mM, (∀ j, j < 145 → M1 j = M j) → GoP (RO9 hs len f) (d + 30) 375 [.ref 1000108, .ref 0, .ref 145, .int 1, .int (Int32.ofNat q), L5, L6, L7, L8, L9, L10] [] (gW 143 (.inl (1, 1) :: X)) M1 65 c s Q := by
      intro M1 e1
      refine wp_sound [122] 90 _ _ _ _ _ _ _ ?_
      refine c_next (fun n1 M2 hn1 g1 => ?_)
      refine ⟨by decide, ?_⟩
      rw [show Int32.ofNat n1 - Int32.ofNat n1 / 10 * 10 = Int32.ofNat (n1 % 10) from rem_sub (k := 10) (by omega) (by omega) (by omega)]
      have x1 := Nat.mod_lt n1 (show 0 < 10 by omega)
      generalize n1 % 10 = sa at x1
      refine c_next (fun n2 M3 hn2 g2 => ?_)
      refine ⟨by decide, ?_⟩
      rw [show Int32.ofNat n2 - Int32.ofNat n2 / 4 * 4 = Int32.ofNat (n2 % 4) from rem_sub (k := 4) (by omega) (by omega) (by omega)]
      have x2 := Nat.mod_lt n2 (show 0 < 4 by omega)
      refine c_trainZ (mu := 1 + n2 % 4) (i_add 1 (n2 % 4)) (by omega) (by omega) (by omega) (fun X4 M4 qq fq a b cc ls mc ms p1 p2 p3 p4 p5 p6 p7 p8 p9 p10 p11 => ?_)
      have hI4 : LI M4 N m S t := hI.fr (fun j hj => by rw [p8 j hj, g2 j (by omega), g1 j (by omega), e1 j hj])
      refine w_load p1 p2 p6 p7 p3 p4 p5.2.2 (by omega) hI4 (fun M5 N5 hI5 hP5 z0 z1 => ?_)
      obtain ⟨hR5, hv5, hd5, _⟩ := hP5
      rw [p5.1, p5.2.1] at hI5 hR5
      rw [p5.2.1] at hv5 ⊢
      generalize hmm : 1 + n2 % 4 = mu at *
      generalize sumG ls = tt at *
      refine ⟨fun _ => ?_, fun h => absurd rfl h⟩
      have w5 : widOk M5 (22 + 9 * q) := by
        rcases (show q = 0 ∨ q = 1 by omega) with h | h
        · rw [h]; exact hI5.1.2.1
        · rw [h]; exact hI5.1.2.2.1
      refine (q_save hI5.2.2.1 hq w5 z0 z1).use ?_
      refine ⟨fun _ => ?_, fun h => absurd (by decide) h⟩
      have far : ∀ j, (j < 22 + 9 * q ∨ 22 + 9 * q + 8 < j) → j ≠ 141 → savC M5 q j = M5 j := fun j x y => by rw [savC, upM_ne y, becM_far (by omega)]
      have tb := TrN_bec (x := 22 + 9 * q) hI5.2.2.1 w5.1 w5.2.1 w5.2.2
      have tb2 : TrN (savC M5 q) (22 + 9 * q) N5 mu sa tt := TrN_fr tb (fun j x y => by rw [savC, upM_ne (by omega)])
      have t12 : TrN (savC M5 q) 12 N5 mu sa tt := TrN_fr hI5.2.2.1 (fun j x y => far j (by omega) (by omega))
      have s141 : savC M5 q 141 q = 1 := by rw [savC, upM_at, upd_at]; decide +kernel
      have wq : widOk (savC M5 q) 22 ∧ widOk (savC M5 q) 31 := by
        rcases (show q = 0 ∨ q = 1 by omega) with h | h
        · subst h
          exact ⟨TrN_wid tb2, wid_fr hI5.1.2.2.1 (fun j x y => far j (by omega) (by omega))⟩
        · subst h
          exact ⟨wid_fr hI5.1.2.1 (fun j x y => far j (by omega) (by omega)), TrN_wid tb2⟩
      have hI6 : IU (savC M5 q) N5 mu sa tt 0 q (sumL N5 mu sa tt) := by
        obtain ⟨⟨a1, a2, a3, a4⟩, ⟨nx, ch, hH⟩, _, hf⟩ := hI5
        exact ⟨⟨⟨wid_fr a1 (fun j x y => far j (by omega) (by omega)), wq.1, wq.2, wid_fr a4 (fun j x y => far j (by omega) (by omega))⟩, ⟨nx, ch, his_fr hH (fun j x y => far j (by omega) (by omega))⟩, t12, by rw [far 1 (by omega) (by omega)]; exact hf⟩, ⟨hR5, hv5, 0, hd5, Nat.le_refl _⟩, N5, sa, tt, tb2, s141, hd5, hR5, rfl⟩
      refine (c_sum t12 hR5).use ?_
      generalize hbg : sumL N5 mu sa tt = bg at hI6 ⊢
      refine up_ind (S := 10) (H := fun u => ∀ (M : mM) (N : Nat → Int32) (S t : Nat) (L9 L10 : Value) (c9 s9 : Nat), IU M N mu S t u q bg → c9 ≤ c + 305 + 12 * u → s9 ≤ s + 300100 + 80 * u → GoP (RO9 hs len f) (d + 30) 375 [.ref 1000108, .ref 0, .ref 145, .int 1, .int (Int32.ofNat q), .int (Int32.ofNat sa), .long bg, .retAddr 0, .int (Int32.ofNat u), L9, L10] [] (gW 143 (.inl (1, 1) :: (X4 ++ [.inl (1, 5)]))) M 122 c9 s9 Q) ?_ (fun u hu ih2 => ?_) 0 (by omega) _ _ _ _ _ _ _ _ hI6 (by omega) (by omega)
      · intro M6 N6 S6 t6 L9 L10 c9 s9 hI7 hc9 hs99
        have hgo : ∀ (M8 : mM) (N8 : Nat → Int32) (m8 S8 t8 : Nat) (LL : Value), LI M8 N8 m8 S8 t8 → GoP (RO9 hs len f) (d + 30) 375 [.ref 1000108, .ref 0, .ref 145, .int 1, .int (Int32.ofNat q), .int (Int32.ofNat sa), .long bg, .retAddr 0, LL, L9, L10] [] (gW 143 (.inl (1, 1) :: (X4 ++ [.inl (1, 5)]))) M8 368 c9 s9 Q := by
          intro M8 N8 m8 S8 t8 LL h8
          refine wp_sound [34] 10 _ _ _ _ _ _ _ ?_
          refine GoP.eq2 (ih _ M8 N8 m8 S8 t8 _ _ _ _ _ _ _ _ h8 (by rw [List.length_append]; show X4.length + 1 ≤ _; omega) (by omega) (by omega)) ?_ rfl
          rw [i_inc]
        refine wp_sound [368] 60 _ _ _ _ _ _ _ ?_
        refine lt_if (a := 10) (b := 10) rfl rfl (by omega) (by omega) (fun h => absurd h (by omega)) (fun _ => ?_)
        refine ⟨fun h => absurd h (by decide), fun _ => ?_⟩
        refine c_next (fun n3 M7 hn3 g3 => ?_)
        have hI8 := hI7.L hq (FrL.nx g3)
        refine ⟨by decide, ?_⟩
        rw [show Int32.ofNat n3 - Int32.ofNat n3 / 2 * 2 = Int32.ofNat (n3 % 2) from rem_sub (k := 2) (by omega) (by omega) (by omega)]
        have x3 := Nat.mod_lt n3 (show 0 < 2 by omega)
        refine eq_if (a := n3 % 2) (b := 0) rfl rfl (by omega) (by omega) (fun _ => ?_) (fun _ => hgo _ _ _ _ _ _ hI8.1)
        obtain ⟨⟨⟨a1, a2, a3, a4⟩, ⟨nx, ch, hH⟩, hT8, hf8⟩, _, Nb, Sb, tb', k1, k2, k3, k4, k5⟩ := id hI8
        refine q_restore hT8 hH hq k2 k1 (fun M8 t8 f8 => ?_)
        rw [k3]
        refine ⟨fun _ => ?_, fun h => absurd rfl h⟩
        refine (c_sum t8 k4).use ?_
        rw [k5]
        refine ⟨fun _ => ?_, fun h => absurd (lg_0 _) h⟩
        obtain ⟨nx8, c8, y1, y2, y3⟩ := his_new hT8 hH f8
        subst k5
        exact hgo _ Nb mu Sb tb' _ ⟨⟨wid_fr a1 (fun j x y => f8.far (by omega) hH.1), wid_fr a2 (fun j x y => f8.far (by omega) hH.1), wid_fr a3 (fun j x y => f8.far (by omega) hH.1), wid_fr a4 (fun j x y => f8.far (by omega) hH.1)⟩, ⟨nx8, c8, y1⟩, t8, by rw [f8.far (by omega) hH.1]; exact hf8⟩
      · intro M6 N6 S6 t6 L9 L10 c9 s9 hI7 hc9 hs99
        exact law_u (c0 := c + 305) (s0 := s + 300100) hq hu (by omega) ih2 M6 N6 S6 t6 L9 L10 c9 s9 hI7 hc9 hs99
    refine wp_sound [65] 40 _ _ _ _ _ _ _ ?_
    refine lt_if (a := q) (b := 2) rfl rfl (by omega) (by omega) (fun _ => ?_) (fun h => absurd h (by omega))
    refine ⟨fun h => absurd h (by decide), fun _ => ?_⟩
    refine ⟨0, rfl, by omega, ?_⟩
    refine lt_if (a := q) (b := len) rfl rfl (by omega) (by omega) (fun h9 => ?_) (fun h9 => ?_)
    · refine ⟨q, rfl, h9, ?_⟩
      refine ⟨0, rfl, by omega, ?_⟩
      exact r65 _ (fun j hj => upM_ne (by omega))
    · refine ⟨0, rfl, by omega, ?_⟩
      exact r65 _ (fun j hj => upM_ne (by omega))
end LAW
