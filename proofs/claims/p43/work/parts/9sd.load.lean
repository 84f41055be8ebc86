/-! the law loads a text -/
/-- what holds between two trains -/
def LI (M : mM) (N : Nat → Int32) (m S t : Nat) : Prop := (widOk M 3 ∧ widOk M 22 ∧ widOk M 31 ∧ widOk M 40) ∧ (∃ nx c, I_his M nx c) ∧ TrN M 12 N m S t ∧ M 1 2 = 0
section LOD
variable {hs f : Nat → Int32} {len d : Nat} {X : List sh} {M : mM} {Q : mQ} {w : Nat} {fq : Nat → Int32}
theorem w_load {s m0 S0 t0 a b cc : Nat} {N0 : Nat → Int32} {ls : List LN} (hB : StrB 146 (gW 143 (.inl (1, 1) :: X)) M s (trT a b cc ls).length fq) (hf : ∀ i, i < (trT a b cc ls).length → fq i = Int32.ofNat ((trT a b cc ls).getD i 0)) (h8 : ∀ y ∈ trT a b cc ls, y < 128) (hlen : (trT a b cc ls).length ≤ 300) (ha : a ≤ 99 ∧ b ≤ 50 ∧ cc ≤ 50) (hls : lnsOk 0 0 0 ls) (hll : ls.length ≤ 600) (hX : X.length ≤ 3000) (hI : LI M N0 m0 S0 t0) (hQ : ∀ (M' : mM) (N : Nat → Int32), LI M' N (sumM ls) (sumK ls) (sumG ls) → PS N (sumM ls) (sumK ls) (sumG ls) → M' 141 0 = 0 → M' 141 1 = 0 → Q (.inl (some (.int (Int32.ofNat (sumK ls))))) (gW 143 (.inl (1, 1) :: (X ++ [.inl (1, 5)]))) M' 1 5) : EvP (RO9 hs len f) (d + 14) 357 [.ref 0, .ref s] (gW 143 (.inl (1, 1) :: X)) M Q := by
  obtain ⟨⟨w3, w22, w31, w40⟩, ⟨nx, c, h1, h2, h3, h4, h5⟩, hT, hfed⟩ := hI
  generalize hTT : trT a b cc ls = T at *
  have g8 : ∀ i, i < T.length → T.getD i 0 < 128 := fun i hi => h8 _ (by rw [List.getD_eq_getElem?_getD, List.getElem?_eq_getElem hi]; exact List.getElem_mem hi)
  refine EvP.wp [] 30 rfl ?_
  refine c_type hB (fun i hi => ⟨_, g8 i hi, hf i hi⟩) hfed hlen hX (fun M1 nf i1 i2 i3 i4 i5 i6 => ?_)
  have hsuf : Suf (fun j => T.getD j 32) T.length 0 (trT a b cc ls) := by
    rw [hTT]
    refine ⟨(Nat.zero_add _).symm, fun i hi => ?_⟩
    show T.getD (0 + i) 32 = _
    rw [Nat.zero_add, List.getD_eq_getElem?_getD, List.getD_eq_getElem?_getD, List.getElem?_eq_getElem hi]
    rfl
  obtain ⟨N, e, hp, hPS⟩ := p_text ha.1 ha.2.1 ha.2.2 hll hls hsuf
  refine q_load (Z := fun _ => 0) (fun _ _ => rfl) i3 (by omega) (wid_fr w3 (fun q a b => i1 q (by omega) (by omega) (by omega))) (TrN_fr hT (fun q a b => i1 q (by omega) (by omega) (by omega))) (fun j hj => ?_) i4 hp (fun M2 g1 g2 g3 => ?_)
  · show M1 2 j &&& 255 = Int32.ofNat (T.getD j 32) ∧ T.getD j 32 < 256
    rw [i6 j hj]
    by_cases h9 : j < T.length
    · have e9 : T.getD j 32 = T.getD j 0 := by rw [List.getD_eq_getElem?_getD, List.getD_eq_getElem?_getD, List.getElem?_eq_getElem h9]; rfl
      rw [if_pos h9, hf j h9, e9, (byte_small _ (g8 j h9)).2.2.2.2.2]
      exact ⟨rfl, by have := g8 j h9; omega⟩
    · rw [if_neg h9, List.getD_eq_getElem?_getD, List.getElem?_eq_none (by omega)]
      exact ⟨by decide, by decide⟩
  have e12 := TrN_wid hT
  have w12 : widOk M2 12 := wid_fr e12 (fun q a b => (g1.1 q (by omega) (by omega)).trans (i1 q (by omega) (by omega) (by omega)))
  have t12 := TrN_bec (x := 12) g3 w12.1 w12.2.1 w12.2.2
  have far : ∀ q, 20 < q → q < 146 → q ≠ 49 → q ≠ 141 → upM (upM (becM M2 12 3) 49 (upd (M1 49) 2 0)) 141 (upd (upd (M1 141) 0 (vp_nar .boolean 0)) 1 (vp_nar .boolean 0)) q = M q := fun q a1 a2 a3 a4 => by
    rw [upM_ne a4, upM_ne a3, becM_far (by omega), g1.1 q (by omega) (by omega), i1 q a2 (by omega) (by omega)]
  have low : ∀ q, q < 12 → upM (upM (becM M2 12 3) 49 (upd (M1 49) 2 0)) 141 (upd (upd (M1 141) 0 (vp_nar .boolean 0)) 1 (vp_nar .boolean 0)) q = M2 q := fun q a1 => by
    rw [upM_ne (by omega), upM_ne (by omega), becM_far (by omega)]
  refine hQ _ N ⟨⟨wid_fr (TrN_wid g3) (fun q a b => low q (by omega)), wid_fr w22 (fun q a b => far q (by omega) (by omega) (by omega) (by omega)), wid_fr w31 (fun q a b => far q (by omega) (by omega) (by omega) (by omega)), wid_fr w40 (fun q a b => far q (by omega) (by omega) (by omega) (by omega))⟩, ⟨nx, 0, h1, Nat.zero_le _, ?_, ?_, fun i hi => wid_fr (h5 i hi) (fun q a b => far q (by omega) (by omega) (by omega) (by omega))⟩, TrN_fr t12 (fun q a b => by rw [upM_ne (by omega), upM_ne (by omega)]), by rw [low 1 (by omega)]; exact g1.2⟩ hPS ?_ ?_
  · rw [upM_ne (by decide), upM_at, upd_ne (by decide), i1 49 (by omega) (by omega) (by omega)]; exact h3
  · rw [upM_ne (by decide), upM_at]; exact upd_at
  · rw [upM_at, upd_ne (by decide), upd_at]; decide +kernel
  · rw [upM_at, upd_at]; decide +kernel
end LOD
