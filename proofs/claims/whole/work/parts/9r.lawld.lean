/-! the law's case of a text -/
section LAW
variable {hs : Nat → Int32} {d len sb i c s : Nat} {f : Nat → Int32} {ext : List sh} {M : mM} {Q : mQ} {v6 v7 v8 v9 : Value}
theorem law_load (hI : Inv sb ext M) (hi : i + 6 ≤ len) (hlen : len ≤ 3072) (hK : Lcont (RO9 hs len f) (d + 30) Q ext i c s) : GoP (RO9 hs len f) (d + 30) 358 (lawL i v6 v7 v8 v9) [] (gW sb ext) M 324 c s Q := by
  obtain ⟨m, S, t, nx, cc, hT, hR, hw, hH⟩ := hI.parts
  obtain ⟨nf, hn⟩ := hI.2.2.2.2.1
  have hkey := hI.2.2.2.2.2.2.2
  have hnf : nf ≤ 700 := hn.1
  have hw3 := hI.2.1.1
  have hZ0 : ∀ j, j < 207 → zF (M 149) 0 207 j = 0 := fun j hj => by rw [zF, if_pos (by omega)]
  have hb : ∀ j, j < nf → M 2 j &&& 255 = Int32.ofNat (M 155 j &&& 255).toNatClampNeg ∧ (M 155 j &&& 255).toNatClampNeg < 256 ∧ M 155 j = sgB (M 155 j &&& 255).toNatClampNeg := fun j hj => by
    obtain ⟨h1, a, h2⟩ := hn.2.2.2 j hj
    rw [h1, h2]
    obtain ⟨k1, k2, k3⟩ := byte8 a
    exact ⟨k2, k1, k3⟩
  refine wp_sound [330, 343, 2408] 90 _ _ _ _ _ _ _ ?_
  refine go_ald (j := i + 1) rfl (i_add i 1) (by omega) (by omega) ?_
  refine wp_sound [330, 343, 2408] 90 _ _ _ _ _ _ _ ?_
  refine w_load (B := fun j => (M 155 j &&& 255).toNatClampNeg) (Z := zF (M 149) 0 207) hZ0 hn.2.1 hn.1 hw3 hT (fun j hj => ⟨(hb j hj).1, (hb j hj).2.1⟩) (fun h9 => ?_) (fun n hnn hv k x M1 hp f1 w1 k9 k10 k0 k7 => ?_) (fun n hnn hv N m' S' t' e M1 hp f1 o1 t1 => ?_)
  · refine go_ald (j := i + 1) rfl (i_add i 1) (by omega) (by omega) ?_
    refine wp_sound [330, 343, 2408] 90 _ _ _ _ _ _ _ ?_
    refine e_load (B := fun j => (M 155 j &&& 255).toNatClampNeg) rfl hn.2.2.1 hn.1 (fun j hj => ⟨(hb j hj).2.2, (hb j hj).2.1⟩) hkey (fun _ => ?_) (fun n hnn hv => absurd h9 (by rw [inB_on (by omega) (by omega : n < nf + 1) hv]; decide)) (fun n hnn hv => absurd h9 (by rw [inB_on (by omega) (by omega : n < nf + 1) hv]; decide))
    refine e_thrown.use ?_
    refine ⟨fun _ => ?_, fun h => absurd thr_3 h⟩
    refine ⟨fun h0 => absurd h0 (by decide), fun _ => ?_⟩
    exact hK _ _ _ _ _ _ _ _ _ (hI.fr (FrL.of FrQ.refl FrM.refl.thr)) (by omega) (by omega)
  · have x149 : M1 149 = M 149 := f1.1 149 (by omega) (by omega)
    have x155 : M1 155 = M 155 := f1.1 155 (by omega) (by omega)
    have x145 : M1 145 = M 145 := f1.1 145 (by omega) (by omega)
    refine go_ald (j := i + 1) rfl (i_add i 1) (by omega) (by omega) ?_
    refine wp_sound [330, 343, 2408] 90 _ _ _ _ _ _ _ ?_
    refine e_load (M := M1) (B := fun j => (M 155 j &&& 255).toNatClampNeg) (Z := zF (M 149) 0 207) (by rw [x149]) (by rw [x145]; exact hn.2.2.1) hn.1 (fun j hj => by rw [x155]; exact ⟨(hb j hj).2.2, (hb j hj).2.1⟩) (key_fr hkey (f1.1 146 (by omega) (by omega)) (f1.1 147 (by omega) (by omega)) (f1.1 148 (by omega) (by omega))) (fun h8 => absurd h8 (by rw [inB_on (by omega) (by omega : n < nf + 1) hv]; decide)) (fun n2 hn2 hv2 k2 x2 M2 hp2 f2 _ _ => ?_) (fun n2 hn2 hv2 N2 m2 S2 t2 e2 M2 hp2 f2 h149 => ?_)
    · have hnn2 : n2 = n := i_inj (by omega) (by omega) (hv2.symm.trans hv)
      subst hnn2
      have hkx := hp2.symm.trans hp
      injection hkx with hkx
      injection hkx with g1 g2
      subst g1 g2
      refine e_thrown.use ?_
      refine ⟨fun _ => ?_, fun h => absurd thr_3 h⟩
      refine ⟨fun h0 => absurd h0 (by decide), fun _ => ?_⟩
      exact hK _ _ _ _ _ _ _ _ _ (inv_no hI f1 w1 k9 k10 f2) (by omega) (by omega)
    · have hnn2 : n2 = n := i_inj (by omega) (by omega) (hv2.symm.trans hv)
      subst hnn2
      have hkx := hp2.symm.trans hp
      cases hkx
  · have hR' := ok_text hZ0 hp
    generalize hMc : upM (upM (upM (becM M1 12 3) 49 (upd (M 49) 2 0)) 141 (upd (upd (M 141) 0 (vp_nar .boolean 0)) 1 (vp_nar .boolean 0))) 157 (upd (M 157) 0 (Int32.ofNat S').toInt64.toInt32) = Mc
    have c0 : ∀ q, q ≠ 49 → q ≠ 141 → q ≠ 157 → Mc q = becM M1 12 3 q := fun q h1 h2 h3 => by rw [← hMc, upM_ne h3, upM_ne h2, upM_ne h1]
    have c1 : ∀ q, q ≠ 49 → q ≠ 141 → q ≠ 157 → 20 < q → Mc q = M q := fun q h1 h2 h3 h4 => by rw [c0 q h1 h2 h3, becM_far (by omega)]; exact f1.1 q (by omega) (by omega)
    have x149 : Mc 149 = M 149 := c1 149 (by omega) (by omega) (by omega) (by omega)
    have x155 : Mc 155 = M 155 := c1 155 (by omega) (by omega) (by omega) (by omega)
    have x145 : Mc 145 = M 145 := c1 145 (by omega) (by omega) (by omega) (by omega)
    have o157 : Mc 157 0 = Int32.ofNat S' := by rw [← hMc, upM_at, upd_at, l_i]
    refine go_ald (j := i + 1) rfl (i_add i 1) (by omega) (by omega) ?_
    refine wp_sound [330, 343, 2408] 90 _ _ _ _ _ _ _ ?_
    refine e_load (M := Mc) (B := fun j => (M 155 j &&& 255).toNatClampNeg) (Z := zF (M 149) 0 207) (by rw [x149]) (by rw [x145]; exact hn.2.2.1) hn.1 (fun j hj => by rw [x155]; exact ⟨(hb j hj).2.2, (hb j hj).2.1⟩) (key_fr hkey (c1 146 (by omega) (by omega) (by omega) (by omega)) (c1 147 (by omega) (by omega) (by omega) (by omega)) (c1 148 (by omega) (by omega) (by omega) (by omega))) (fun h8 => absurd h8 (by rw [inB_on (by omega) (by omega : n < nf + 1) hv]; decide)) (fun n2 hn2 hv2 k2 x2 M2 hp2 f2 _ _ => ?_) (fun n2 hn2 hv2 N2 m2 S2 t2 e2 M2 hp2 f2 h149 => ?_)
    · have hnn2 : n2 = n := i_inj (by omega) (by omega) (hv2.symm.trans hv)
      subst hnn2
      have hkx := hp2.symm.trans hp
      cases hkx
    · have hnn2 : n2 = n := i_inj (by omega) (by omega) (hv2.symm.trans hv)
      subst hnn2
      have hkx := hp2.symm.trans hp
      injection hkx with hkx
      simp only [Prod.mk.injEq] at hkx
      obtain ⟨rfl, rfl, rfl, rfl, rfl⟩ := hkx
      have hfin := inv_yes hI f1 o1 t1 hR' hMc.symm f2 h149
      have o2 : ldOk M2 157 0 = Int32.ofNat S2 := by
        rw [ldOk, thr_eq, upM_ne (by decide), upM_ne (by decide), f2.1 157 (by decide) (by decide) (by decide), asideM, upM_ne (by decide)]; exact o157
      have o3 : ldOk M2 145 3 = 0 := by rw [ldOk]; exact thr_3
      have e4 : M2 149 4 = Int32.ofNat S2 := by rw [h149]; exact hR'.1.1.2.1
      refine e_thrown.use ?_
      refine ⟨fun _ => ?_, fun h => absurd o3 h⟩
      refine ⟨fun _ => ?_, fun h => absurd rfl h⟩
      refine ⟨0, rfl, by omega, ?_⟩
      refine ⟨fun _ => ?_, fun h => absurd ?_ h⟩
      · exact hK _ _ _ _ _ _ _ _ _ hfin (by omega) (by omega)
      · rw [o2, e4]; exact lcmp_self
end LAW
