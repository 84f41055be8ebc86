/-! the law itself -/
theorem lg_0 (x : Int64) : lg_cmp x x = 0 := by
  unfold lg_cmp
  simp
theorem LI.fr {M M' : mM} {N : Nat → Int32} {m S t : Nat} (hI : LI M N m S t) (h : ∀ q, q < 145 → M' q = M q) : LI M' N m S t := by
  obtain ⟨⟨a1, a2, a3, a4⟩, ⟨nx, c, b⟩, hT, f⟩ := hI
  exact ⟨⟨wid_fr a1 (fun q x y => h q (by omega)), wid_fr a2 (fun q x y => h q (by omega)), wid_fr a3 (fun q x y => h q (by omega)), wid_fr a4 (fun q x y => h q (by omega))⟩, ⟨nx, c, his_fr b (fun q x y => h q (by omega))⟩, TrN_fr hT (fun q x y => h q (by omega)), by rw [h 1 (by omega)]; exact f⟩
/-- what holds while a train is acted on -/
def IU (M : mM) (N : Nat → Int32) (m S t u q : Nat) (bg : Int64) : Prop := LI M N m S t ∧ (rOk N m S t ∧ vOk N S ∧ ∃ D, N 6 = Int32.ofNat D ∧ D ≤ 9 * u) ∧ ∃ (Nb : Nat → Int32) (Sb tb : Nat), TrN M (22 + 9 * q) Nb m Sb tb ∧ M 141 q = 1 ∧ Nb 6 = 0 ∧ rOk Nb m Sb tb ∧ bg = sumL Nb m Sb tb
theorem IU.L {M M' : mM} {N : Nat → Int32} {m S t u q : Nat} {bg : Int64} (hq : q < 2) (hI : IU M N m S t u q bg) (h : FrL M M') : IU M' N m S t u q bg := by
  obtain ⟨⟨⟨a1, a2, a3, a4⟩, ⟨nx, c, b⟩, hT, f⟩, r, Nb, Sb, tb, k1, k2, k3⟩ := hI
  have e : ∀ j, (j < 40 ∨ 48 < j) → j < 144 → M' j = M j := fun j x y => h.1 j x (by omega) (by omega)
  exact ⟨⟨⟨wid_fr a1 (fun q x y => e q (by omega) (by omega)), wid_fr a2 (fun q x y => e q (by omega) (by omega)), wid_fr a3 (fun q x y => e q (by omega) (by omega)), h.wid a4⟩, ⟨nx, c, h.his b⟩, h.Tr hT, by rw [e 1 (by omega) (by omega)]; exact f⟩, r, Nb, Sb, tb, TrN_fr k1 (fun j x y => e j (by omega) (by omega)), by rw [e 141 (by omega) (by omega)]; exact k2, k3⟩
theorem IU.act {M M' : mM} {N N' : Nat → Int32} {m S t S' t' u q D : Nat} {bg : Int64} (hq : q < 2) (hI : IU M N m S t u q bg) (hD9 : D ≤ 9 * u) (h : actE M M' N m S t N' S' t' D) : IU M' N' m S' t' (u + 1) q bg := by
  obtain ⟨⟨⟨a1, a2, a3, a4⟩, ⟨nx, c, b⟩, hT, f⟩, r, Nb, Sb, tb, k1, k2, k3⟩ := hI
  obtain ⟨h1, ⟨h2, h3, D', h4, h5⟩, h6, ⟨nx', c', h7, h8, h9⟩, hF⟩ := h
  exact ⟨⟨⟨wid_fr a1 (fun q x y => hF q (by omega)), wid_fr a2 (fun q x y => hF q (by omega)), wid_fr a3 (fun q x y => hF q (by omega)), h6⟩, ⟨nx', c', h7⟩, h1, by rw [hF 1 (by omega)]; exact f⟩, ⟨h2, h3, D', h4, by omega⟩, Nb, Sb, tb, TrN_fr k1 (fun j x y => hF j (by omega)), by rw [hF 141 (by omega)]; exact k2, k3⟩
/-- undone: the train before is back -/
theorem IU.und {M M0 : mM} {N N' : Nat → Int32} {m S t S' t' u q nx c : Nat} {bg : Int64} (hq : q < 2) (hI : IU M N' m S' t' u q bg) (hr : rOk N m S t ∧ vOk N S ∧ ∃ D, N 6 = Int32.ofNat D ∧ D ≤ 9 * u) (hH : I_his M nx c) (hc : 0 < c) (hK : TrN M (51 + 9 * laN nx) N m S t) : IU (bakM M nx c) N m S t u q bg := by
  obtain ⟨⟨⟨a1, a2, a3, a4⟩, _, hT, f⟩, _, Nb, Sb, tb, k1, k2, k3⟩ := hI
  obtain ⟨b1, b2, b3, b4, b5⟩ := hH
  have hl : laN nx < 10 := by unfold laN; split <;> omega
  have e : ∀ j, (j < 12 ∨ 20 < j) → j ≠ 49 → bakM M nx c j = M j := fun j x y => by rw [bakM, upM_ne y, becM_far (by omega)]
  have w := TrN_wid hT
  have t1 := TrN_bec (x := 12) hK w.1 w.2.1 w.2.2
  have t2 : TrN (bakM M nx c) 12 N m S t := TrN_fr t1 (fun j x y => by rw [bakM, upM_ne (by omega)])
  refine ⟨⟨⟨wid_fr a1 (fun q x y => e q (by omega) (by omega)), wid_fr a2 (fun q x y => e q (by omega) (by omega)), wid_fr a3 (fun q x y => e q (by omega) (by omega)), wid_fr a4 (fun q x y => e q (by omega) (by omega))⟩, ⟨laN nx, c - 1, hl, by omega, ?_, ?_, fun i hi => wid_fr (b5 i hi) (fun q x y => e q (by omega) (by omega))⟩, t2, by rw [e 1 (by omega) (by omega)]; exact f⟩, hr, Nb, Sb, tb, TrN_fr k1 (fun j x y => e j (by omega) (by omega)), by rw [e 141 (by omega) (by omega)]; exact k2, k3⟩
  · rw [bakM, upM_at, upd_ne (by omega)]; exact upd_at
  · rw [bakM, upM_at]; exact upd_at
section LAW
variable {hs f : Nat → Int32} {len d : Nat} {X : List sh} {M : mM} {Q : mQ} {m S t : Nat} {N : Nat → Int32}
theorem out_s (hT : TrN M 12 N m S t) (hS : S ≤ 16) : inB 16 0 (N 4 - 1) = false ∧ inB (-1) 0 (N 4 - 1) = false :=
  ⟨inB_out (n := S) (by omega) hT.1.2.1 (Or.inr (by rw [show (16 : Int32) = Int32.ofNat 16 from rfl, i_lt (by omega) (by omega)]; omega)), inB_lo (by decide)⟩
/-- one act of the ten -/
theorem law_u {q u c0 s0 : Nat} {cnt : Int32} {bg : Int64} (hq : q < 2) (hu : u < 10) (hm1 : 0 < m) (ih : ∀ (M : mM) (N : Nat → Int32) (S t : Nat) (L9 L10 : Value) (c s : Nat), IU M N m S t (u + 1) q bg → c ≤ c0 + 12 * (u + 1) → s ≤ s0 + 80 * (u + 1) → GoP (RO9 hs len f) (d + 30) 375 [.ref 1000108, .ref 0, .ref 145, .int 1, .int (Int32.ofNat q), .int cnt, .long bg, .retAddr 0, .int (Int32.ofNat (u + 1)), L9, L10] [] (gW 143 (.inl (1, 1) :: X)) M 122 c s Q) (M : mM) (N : Nat → Int32) (S t : Nat) (L9 L10 : Value) (c s : Nat) (hI : IU M N m S t u q bg) (hc : c ≤ c0 + 12 * u) (hs9 : s ≤ s0 + 80 * u) : GoP (RO9 hs len f) (d + 30) 375 [.ref 1000108, .ref 0, .ref 145, .int 1, .int (Int32.ofNat q), .int cnt, .long bg, .retAddr 0, .int (Int32.ofNat u), L9, L10] [] (gW 143 (.inl (1, 1) :: X)) M 122 c s Q := by
  obtain ⟨hLI, ⟨hR, hv, D, hD, hD9⟩, hb⟩ := id hI
  obtain ⟨⟨a1, a2, a3, hw⟩, ⟨nx, ch, hH⟩, hT, hf⟩ := id hLI
  have hS := hR.1.1.2.2.2.2.1
  have hm := hR.1.1.2.2.2.1
  have ht := hR.1.1.2.2.2.2.2.1
  obtain ⟨o1, o2⟩ := out_s hT hS
  have hsum := fun d => c_sum (RO := RO9 hs len f) (d := d) (X := X) hT hR
  refine wp_sound [255] 200 _ _ _ _ _ _ _ ?_
  refine lt_if (a := u) (b := 10) rfl rfl (by omega) (by omega) (fun _ => ?_) (fun h => absurd h (by omega))
  refine ⟨fun h => absurd h (by decide), fun _ => ?_⟩
  refine (hsum _).use ?_
  refine w_packed hT hR hH (wCh.no (k := 1) (x := 0) (z := -5) (by rw [u_pack, o1]; rfl) (by decide) (by decide) ?_)
  refine ⟨fun _ => ?_, fun h => absurd (by decide) h⟩
  refine w_unpacked hT hR hH (wCh.no (k := 1) (x := 0) (z := -5) (by rw [u_unpack, o2]; rfl) (by decide) (by decide) ?_)
  refine ⟨fun _ => ?_, fun h => absurd (by decide) h⟩
  refine w_filled hT hR hH (wCh.no (k := 1) (x := 0) (z := -5) (by rw [u_fill, inB_out (v := 6) (n := m) (by omega) hT.1.1 (Or.inr (by rw [show (6 : Int32) = Int32.ofNat 6 from rfl, i_lt (by omega) (by omega)]; omega))]; rfl) (by decide) (by decide) ?_)
  refine ⟨fun _ => ?_, fun h => absurd (by decide) h⟩
  refine w_shifted hT hR hH (wCh.no (k := 1) (x := 0) (z := -5) (by rw [u_shift, o1]; rfl) (by decide) (by decide) ?_)
  refine ⟨fun _ => ?_, fun h => absurd (by decide) h⟩
  refine w_rested hT hR hH (wCh.no (k := 1) (x := 0) (z := -2) (by rw [u_rest, show inB 0 1 99 = false from by decide]; rfl) (by decide) (by decide) ?_)
  refine ⟨fun _ => ?_, fun h => absurd (by decide) h⟩
  refine w_added hT hR hH (wCh.no (k := 1) (x := 0) (z := -2) (by rw [u_addSack, show inB 4 0 3 = false from by decide]; rfl) (by decide) (by decide) ?_)
  refine ⟨fun _ => ?_, fun h => absurd (by decide) h⟩
  refine w_staged hT hR hH (wCh.no (k := 1) (x := 0) (z := -2) (by rw [u_addStage, show inB 0 0 2 = true from by decide, show inB 0 1 (mostS 0) = false from by decide]; rfl) (by decide) (by decide) ?_)
  refine ⟨fun _ => ?_, fun h => absurd (by decide) h⟩
  refine w_dropped hT hR hH (wCh.no (k := 1) (x := 0) (z := -5) (by rw [u_drop, inB_out (v := 8) (n := t) (by omega) hT.1.2.2.1 (Or.inr (by rw [show (8 : Int32) = Int32.ofNat 8 from rfl, i_lt (by omega) (by omega)]; omega))]; rfl) (by decide) (by decide) ?_)
  refine ⟨fun _ => ?_, fun h => absurd (by decide) h⟩
  refine w_setTo hT hR hH (wCh.no (k := 1) (x := 0) (z := -2) (by rw [u_set, show inB 0 0 2 = true from by decide, show inB 100 0 (mostT 0) = false from by decide]; rfl) (by decide) (by decide) ?_)
  refine ⟨fun _ => ?_, fun h => absurd (by decide) h⟩
  refine (hsum _).use ?_
  refine ⟨fun _ => ?_, fun h => absurd (lg_0 _) h⟩
  refine wp_sound [287] 40 _ _ _ _ _ _ _ ?_
  refine ⟨fun h => absurd h (by decide), fun _ => ?_⟩
  refine c_act hT hR hv hw hH hD (by omega) hm1 (fun M1 mc ms N1 S1 t1 hE h1 h2 => ?_)
  have hI1 := hI.act hq hD9 hE
  refine ⟨fun h => absurd h (by decide), fun _ => ?_⟩
  refine c_mules hI1.1.2.2.1 hI1.2.1.1 hI1.2.1.2.1 hI1.1.1.2.2.2 (fun M2 f2 => ?_)
  have hI2 := hI1.L hq f2.L
  refine ⟨fun h => absurd h (by decide), fun _ => ?_⟩
  refine c_sacks hI2.1.2.2.1 hI2.2.1.1 hI2.2.1.2.1 hI2.1.1.2.2.2 (fun M3 f3 => ?_)
  have hI3 := hI2.L hq f3.L
  refine ⟨fun h => absurd h (by decide), fun _ => ?_⟩
  refine wp_sound [324] 60 _ _ _ _ _ _ _ ?_
  refine ⟨fun h => absurd h (by decide), fun _ => ?_⟩
  refine c_next (fun n1 M4 hn1 g1 => ?_)
  have f4 := (f2.L.trans f3.L).trans (FrL.nx g1)
  have hI4 := hI1.L hq f4
  refine ⟨by decide, ?_⟩
  rw [show Int32.ofNat n1 - Int32.ofNat n1 / 4 * 4 = Int32.ofNat (n1 % 4) from rem_sub (k := 4) (by omega) (by omega) (by omega)]
  have x1 := Nat.mod_lt n1 (show 0 < 4 by omega)
  refine eq_if (a := n1 % 4) (b := 0) rfl rfl (by omega) (by omega) (fun _ => ?_) (fun _ => ?_)
  · obtain ⟨nx', c', z1, z2, z3⟩ := hE.2.2.2.1
    have z1' := f4.his z1
    have hla : laN nx' < 10 := by have := z1.1; unfold laN; split <;> omega
    have z3' : TrN M4 (51 + 9 * laN nx') N m S t := TrN_fr z3 (fun j x y => f4.1 j (by omega) (by omega) (by omega))
    have hI5 := IU.und (M0 := M4) hq hI4 ⟨hR, hv, D, hD, by omega⟩ z1' z2 z3'
    refine (w_undone hI4.1.2.2.1 z1' z2 z3').use ?_
    refine nn_if (a := c' - 1) rfl (by have := z1.2.1; omega) ?_
    refine (c_sum hI5.1.2.2.1 hR).use ?_
    refine ⟨fun _ => ?_, fun h => absurd (lg_0 _) h⟩
    refine wp_sound [122] 20 _ _ _ _ _ _ _ ?_
    refine GoP.eq2 (ih _ N S t (.long (sumL N m S t)) (.retAddr 0) _ _ hI5 (by omega) (by omega)) ?_ rfl
    rw [i_inc]
  · refine wp_sound [122] 20 _ _ _ _ _ _ _ ?_
    refine GoP.eq2 (ih _ N1 S1 t1 (.long (sumL N m S t)) (.retAddr 0) _ _ hI4 (by omega) (by omega)) ?_ rfl
    rw [i_inc]
theorem c_trainZ {z : Int32} {mu sa : Nat} (hz : z = Int32.ofNat mu) (hmu : mu ≤ 4) (hsa : sa ≤ 9) (hX : X.length ≤ 2000) (hQ : TrQ Q hs f len M X.length mu sa) : EvP (RO9 hs len f) (d + 11) 367 [.int z, .int (Int32.ofNat sa), .ref 145] (gW 143 (.inl (1, 1) :: X)) M Q := by
  subst hz
  exact c_train hmu hsa hX hQ
end LAW
