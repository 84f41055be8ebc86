/-! the invariant after a text -/
theorem byte8 (a : Int8) : (a.toInt32 &&& 255).toNatClampNeg < 256 ∧ a.toInt32 &&& 255 = Int32.ofNat (a.toInt32 &&& 255).toNatClampNeg ∧ a.toInt32 = sgB (a.toInt32 &&& 255).toNatClampNeg := by
  have key : ∀ v : BitVec 8, ((Int8.ofBitVec v).toInt32 &&& 255).toNatClampNeg < 256 ∧ (Int8.ofBitVec v).toInt32 &&& 255 = Int32.ofNat ((Int8.ofBitVec v).toInt32 &&& 255).toNatClampNeg ∧ (Int8.ofBitVec v).toInt32 = sgB ((Int8.ofBitVec v).toInt32 &&& 255).toNatClampNeg := by decide +kernel
  exact key a.toBitVec
theorem cpF0 {O N : Nat → Int32} {j : Nat} (hj : j < 207) : copyF O 0 N 0 207 j = N j := by
  show (if 0 ≤ j ∧ j < 0 + 207 then N (0 + (j - 0)) else O j) = N j
  rw [if_pos (by omega), Nat.zero_add, Nat.sub_zero]
theorem inv_no {sb k x : Nat} {ext : List sh} {M M1 M2 : mM} (hI : Inv sb ext M) (f1 : FrG M M1) (w1 : widOk M1 3) (k9 : M1 1 9 = Int32.ofNat k) (k10 : M1 1 10 = Int32.ofNat x) (f2 : FrU (asideM M1) M2) : Inv sb ext (ldNo M2 k x) := by
  obtain ⟨⟨m, S, t, hT, hR⟩, ⟨b1, b2⟩, ⟨nx, c, hc⟩, ⟨z, hz⟩, ⟨n, hn⟩, he, ⟨p, hp⟩, hk⟩ := hI
  have e : ∀ q, q ≠ 145 → q ≠ 149 → q ≠ 150 → q ≠ 153 → ldNo M2 k x q = M1 q := fun q h1 h2 h3 h4 => by
    rw [ldNo, thr_eq, upM_ne h1, upM_ne h2, upM_ne h1, f2.1 q h1 h2 h4, asideM, upM_ne h3]
  have g : ∀ q, q ≠ 145 → q ≠ 149 → q ≠ 150 → q ≠ 153 → (q < 3 ∨ 11 < q) → q ≠ 1 → ldNo M2 k x q = M q := fun q h1 h2 h3 h4 h5 h6 => (e q h1 h2 h3 h4).trans (f1.1 q h5 h6)
  have m145 : ∀ j, j < 18 → M2 145 j = M 145 j := fun j hj => by
    rw [f2.2 j hj, asideM, upM_ne (by decide), f1.1 145 (by omega) (by omega)]
  have e145 : ∀ j, j < 18 → j ≠ 3 → j ≠ 13 → j ≠ 16 → j ≠ 17 → ldNo M2 k x 145 j = M 145 j := fun j hj h3 h13 h16 h17 => by
    rw [ldNo, thr_eq, upM_at, upd_ne h3, upM_ne (by decide), upM_at, upd_ne h17, upd_ne h16, upd_ne h13]; exact m145 j hj
  have e13 : ldNo M2 k x 145 13 = 0 := by
    rw [ldNo, thr_eq, upM_at, upd_ne (by decide), upM_ne (by decide), upM_at, upd_ne (by decide), upd_ne (by decide), upd_at]
  have e16 : ldNo M2 k x 145 16 = Int32.ofNat k := by
    rw [ldNo, thr_eq, upM_at, upd_ne (by decide), upM_ne (by decide), upM_at, upd_ne (by decide), upd_at]
  have e17 : ldNo M2 k x 145 17 = Int32.ofNat x := by
    rw [ldNo, thr_eq, upM_at, upd_ne (by decide), upM_ne (by decide), upM_at, upd_at]
  have e149 : ∀ j, j < 207 → ldNo M2 k x 149 j = M 149 j := fun j hj => by
    rw [ldNo, thr_eq, upM_ne (by decide), upM_at, cpF0 hj, f2.1 150 (by decide) (by decide) (by decide), asideM, upM_at, cpF0 hj, f1.1 149 (by omega) (by omega)]
  have hs := hp.2.2.2.2.1
  generalize ldNo M2 k x = M3 at *
  refine ⟨⟨m, S, t, TrN_congr e149 (TrN_fr hT (fun q x y => g q (by omega) (by omega) (by omega) (by omega) (by omega) (by omega))), rOk_congr e149 hR⟩, ⟨wid_fr w1 (fun q x y => e q (by omega) (by omega) (by omega) (by omega)), wid_fr b2 (fun q x y => g q (by omega) (by omega) (by omega) (by omega) (by omega) (by omega))⟩, ⟨nx, c, his_fr hc (fun q x y => g q (by omega) (by omega) (by omega) (by omega) (by omega) (by omega)) (e145 7 (by omega) (by omega) (by omega) (by omega) (by omega)) (g 151 (by omega) (by omega) (by omega) (by omega) (by omega) (by omega))⟩, ⟨z, sav_fr hz (fun q x y => g q (by omega) (by omega) (by omega) (by omega) (by omega) (by omega)) (e145 9 (by omega) (by omega) (by omega) (by omega) (by omega)) (g 152 (by omega) (by omega) (by omega) (by omega) (by omega) (by omega)) (g 141 (by omega) (by omega) (by omega) (by omega) (by omega) (by omega))⟩, ⟨0, by omega, by rw [e 1 (by omega) (by omega) (by omega) (by omega)]; exact f1.2, e13, fun j hj => absurd hj (Nat.not_lt_zero _)⟩, ⟨by rw [e 1 (by omega) (by omega) (by omega) (by omega), e16]; exact k9, by rw [e 1 (by omega) (by omega) (by omega) (by omega), e17]; exact k10⟩, ⟨p, out_fr hp (e145 15 (by omega) (by omega) (by omega) (by omega) (by omega)) (g 142 (by omega) (by omega) (by omega) (by omega) (by omega) (by omega)) (fun j _ => by rw [g sb (by omega) (by omega) (by omega) (by omega) (by omega) (by omega)]) (g 156 (by omega) (by omega) (by omega) (by omega) (by omega) (by omega))⟩, key_fr hk (g 146 (by omega) (by omega) (by omega) (by omega) (by omega) (by omega)) (g 147 (by omega) (by omega) (by omega) (by omega) (by omega) (by omega)) (g 148 (by omega) (by omega) (by omega) (by omega) (by omega) (by omega))⟩
theorem inv_yes {sb m S t : Nat} {ext : List sh} {M M1 M2 Mc : mM} {N : Nat → Int32} {F : Nat → Int32} (hI : Inv sb ext M) (f1 : FrG M M1) (o1 : OkC M1) (t1 : TrN M1 3 N m S t) (hR : rOk N m S t) (hMc : Mc = upM (upM (upM (becM M1 12 3) 49 (upd (M 49) 2 0)) 141 (upd (upd (M 141) 0 (vp_nar .boolean 0)) 1 (vp_nar .boolean 0))) 157 F) (f2 : FrU (asideM Mc) M2) (hN : M2 149 = N) : Inv sb ext (ldOk M2) := by
  obtain ⟨⟨m0, S0, t0, hT0, hR0⟩, ⟨b1, b2⟩, ⟨nx, c, hc⟩, ⟨z, hz⟩, ⟨n, hn⟩, he, ⟨p, hp⟩, hk⟩ := hI
  have w12 := TrN_wid hT0
  have e12 : widOk M1 12 := wid_fr w12 (fun q a b => f1.1 q (by omega) (by omega))
  have tb := TrN_bec (x := 12) t1 e12.1 e12.2.1 e12.2.2
  have c0 : ∀ q, q ≠ 49 → q ≠ 141 → q ≠ 157 → Mc q = becM M1 12 3 q := fun q h1 h2 h3 => by rw [hMc, upM_ne h3, upM_ne h2, upM_ne h1]
  have e : ∀ q, q ≠ 145 → q ≠ 149 → q ≠ 150 → q ≠ 153 → ldOk M2 q = Mc q := fun q h1 h2 h3 h4 => by
    rw [ldOk, thr_eq, upM_ne h1, upM_ne h1, f2.1 q h1 h2 h4, asideM, upM_ne h3]
  have eb : ∀ q, q ≠ 145 → q ≠ 149 → q ≠ 150 → q ≠ 153 → q ≠ 49 → q ≠ 141 → q ≠ 157 → ldOk M2 q = becM M1 12 3 q := fun q h1 h2 h3 h4 h5 h6 h7 => (e q h1 h2 h3 h4).trans (c0 q h5 h6 h7)
  have g : ∀ q, q ≠ 145 → q ≠ 149 → q ≠ 150 → q ≠ 153 → q ≠ 49 → q ≠ 141 → q ≠ 157 → (q < 12 ∨ 20 < q) → (q < 3 ∨ 11 < q) → q ≠ 1 → ldOk M2 q = M q := fun q h1 h2 h3 h4 h5 h6 h7 h8 h9 h10 => by
    rw [eb q h1 h2 h3 h4 h5 h6 h7, becM_far (by omega)]; exact f1.1 q h9 h10
  have m145 : ∀ j, j < 18 → M2 145 j = M 145 j := fun j hj => by
    rw [f2.2 j hj, asideM, upM_ne (by decide), c0 145 (by decide) (by decide) (by decide), becM_far (by omega), f1.1 145 (by omega) (by omega)]
  have e15 : ldOk M2 145 15 = M 145 15 := by
    rw [ldOk, thr_eq, upM_at, upd_ne (by decide), upM_at, upd_ne (by decide), upd_ne (by decide), upd_ne (by decide), upd_ne (by decide), upd_ne (by decide)]; exact m145 15 (by omega)
  have e13 : ldOk M2 145 13 = 0 := by
    rw [ldOk, thr_eq, upM_at, upd_ne (by decide), upM_at, upd_ne (by decide), upd_ne (by decide), upd_ne (by decide), upd_ne (by decide), upd_at]
  have e16 : ldOk M2 145 16 = 0 := by
    rw [ldOk, thr_eq, upM_at, upd_ne (by decide), upM_at, upd_ne (by decide), upd_ne (by decide), upd_ne (by decide), upd_at]
  have e17 : ldOk M2 145 17 = -1 := by
    rw [ldOk, thr_eq, upM_at, upd_ne (by decide), upM_at, upd_ne (by decide), upd_ne (by decide), upd_at]
  have e7 : ldOk M2 145 7 = 0 := by
    rw [ldOk, thr_eq, upM_at, upd_ne (by decide), upM_at, upd_ne (by decide), upd_at]
  have e9 : ldOk M2 145 9 = 0 := by
    rw [ldOk, thr_eq, upM_at, upd_ne (by decide), upM_at, upd_at]
  have e149 : ldOk M2 149 = N := by
    rw [ldOk, thr_eq, upM_ne (by decide), upM_ne (by decide)]; exact hN
  have e49 : ldOk M2 49 = upd (M 49) 2 0 := by
    rw [e 49 (by decide) (by decide) (by decide) (by decide), hMc, upM_ne (by decide), upM_ne (by decide), upM_at]
  have e141 : ldOk M2 141 = upd (upd (M 141) 0 (vp_nar .boolean 0)) 1 (vp_nar .boolean 0) := by
    rw [e 141 (by decide) (by decide) (by decide) (by decide), hMc, upM_ne (by decide), upM_at]
  have e1 : ldOk M2 1 = M1 1 := by rw [eb 1 (by omega) (by omega) (by omega) (by omega) (by omega) (by omega) (by omega), becM_far (by omega)]
  have w3 : ∀ q, 3 ≤ q → q ≤ 11 → ldOk M2 q = M1 q := fun q a b => by rw [eb q (by omega) (by omega) (by omega) (by omega) (by omega) (by omega) (by omega), becM_far (by omega)]
  have hs := hp.2.2.2.2.1
  obtain ⟨a1, a2, a3, a4, a5, a6, a7⟩ := hc
  obtain ⟨z1, z2, z3, z4, z5⟩ := hz
  generalize ldOk M2 = M3 at *
  refine ⟨⟨m, S, t, by rw [e149]; exact TrN_fr tb (fun q x y => eb q (by omega) (by omega) (by omega) (by omega) (by omega) (by omega) (by omega)), by rw [e149]; exact hR⟩, ⟨wid_fr (TrN_wid t1) (fun q x y => w3 q x (by omega)), wid_fr b2 (fun q x y => g q (by omega) (by omega) (by omega) (by omega) (by omega) (by omega) (by omega) (by omega) (by omega) (by omega))⟩, ⟨nx, 0, a1, by omega, by rw [e49, upd_ne (by decide)]; exact a3, by rw [e49, upd_at]; rfl, e7, fun i hi => wid_fr (a6 i hi) (fun q x y => g q (by omega) (by omega) (by omega) (by omega) (by omega) (by omega) (by omega) (by omega) (by omega) (by omega)), fun i hi => absurd hi (Nat.not_lt_zero _)⟩, ⟨0, by omega, e9, wid_fr z3 (fun q x y => g q (by omega) (by omega) (by omega) (by omega) (by omega) (by omega) (by omega) (by omega) (by omega) (by omega)), wid_fr z4 (fun q x y => g q (by omega) (by omega) (by omega) (by omega) (by omega) (by omega) (by omega) (by omega) (by omega) (by omega)), fun k hk2 => ⟨?_, fun h => absurd h (by rw [Nat.zero_testBit]; decide)⟩⟩, ⟨0, by omega, by rw [e1]; exact f1.2, e13, fun j hj => absurd hj (Nat.not_lt_zero _)⟩, ⟨by rw [e1, e16]; exact o1.1, by rw [e1, e17]; exact o1.2⟩, ⟨p, out_fr hp e15 (g 142 (by omega) (by omega) (by omega) (by omega) (by omega) (by omega) (by omega) (by omega) (by omega) (by omega)) (fun j _ => by rw [g sb (by omega) (by omega) (by omega) (by omega) (by omega) (by omega) (by omega) (by omega) (by omega) (by omega)]) (g 156 (by omega) (by omega) (by omega) (by omega) (by omega) (by omega) (by omega) (by omega) (by omega) (by omega))⟩, key_fr hk (g 146 (by omega) (by omega) (by omega) (by omega) (by omega) (by omega) (by omega) (by omega) (by omega) (by omega)) (g 147 (by omega) (by omega) (by omega) (by omega) (by omega) (by omega) (by omega) (by omega) (by omega) (by omega)) (g 148 (by omega) (by omega) (by omega) (by omega) (by omega) (by omega) (by omega) (by omega) (by omega) (by omega))⟩
  rw [e141, Nat.zero_testBit]
  rcases (show k = 0 ∨ k = 1 by omega) with rfl | rfl
  · rw [upd_ne (by decide), upd_at]; decide +kernel
  · rw [upd_at]; decide +kernel
