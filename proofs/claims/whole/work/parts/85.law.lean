/-! the law's cases: changes -/
theorem r_pack {N : Nat → Int32} {m S t : Nat} {v w x : Int32} (hR : rOk N m S t) (h : (u_pack N S v w x).1 = 0) : rOk (packN N v.toNatClampNeg w x) m S t := by
  have hm := hR.1.1.2.2.2.1
  have hS := hR.1.1.2.2.2.2.1
  rw [u_pack] at h
  cases h1 : inB v 0 (N 4 - 1) with
  | false => rw [h1, Bool.false_and] at h; exact absurd (show (1 : Int32) = 0 from h) (by decide)
  | true =>
  cases h2 : inB w 0 (N 3 - 1) with
  | false => rw [h1, h2, Bool.and_false] at h; exact absurd (show (1 : Int32) = 0 from h) (by decide)
  | true =>
  cases h3 : inB x 0 1 with
  | false => rw [h1, h2, h3] at h; exact absurd (show (2 : Int32) = 0 from h) (by decide)
  | true =>
  obtain ⟨k, hk, hv⟩ := inB_n (by omega) hR.1.1.2.1 h1
  obtain ⟨i, hi, hw⟩ := inB_n (by omega) hR.1.1.1 h2
  obtain ⟨j, hj, hx⟩ := inB_c (n := 1) (by omega) h3
  rw [h1, h2, h3, Bool.and_self, cond_true, cond_true, hv, hw, clamp_nn (by omega), clamp_nn (by omega)] at h
  by_cases hp : prN N k i S = 0
  · rw [hv, hw, clamp_nn (by omega)]
    refine rOk_pack hR hk hi ?_ hp
    rcases (show j = 0 ∨ j = 1 by omega) with rfl | rfl
    · exact Or.inl hx
    · exact Or.inr hx
  · rw [if_neg hp] at h
    exact absurd (show (3 : Int32) = 0 from h) (by decide)
theorem r_unpack {N : Nat → Int32} {m S t : Nat} {v : Int32} (hR : rOk N m S t) (h : (u_unpack N S v).1 = 0) : rOk (leaveN N v.toNatClampNeg 0) m S t := by
  have hS := hR.1.1.2.2.2.2.1
  rw [u_unpack] at h
  cases h1 : inB v 0 (N 4 - 1) with
  | false => rw [h1] at h; exact absurd (show (1 : Int32) = 0 from h) (by decide)
  | true =>
  obtain ⟨k, hk, hv⟩ := inB_n (by omega) hR.1.1.2.1 h1
  rw [hv, clamp_nn (by omega)]
  exact rOk_unpack hR hk
theorem r_shift {N : Nat → Int32} {m S t : Nat} {v : Int32} (hR : rOk N m S t) (h : (u_shift N S v).1 = 0) : rOk (shN N v.toNatClampNeg) m S t := by
  have hS := hR.1.1.2.2.2.2.1
  rw [u_shift] at h
  cases h1 : inB v 0 (N 4 - 1) with
  | false => rw [h1] at h; exact absurd (show (1 : Int32) = 0 from h) (by decide)
  | true =>
  obtain ⟨k, hk, hv⟩ := inB_n (by omega) hR.1.1.2.1 h1
  rw [h1, cond_true, hv, clamp_nn (by omega)] at h
  rw [hv, clamp_nn (by omega)]
  by_cases hp : N (63 + 8 * k + 3) = 1
  · exact rOk_shift hR hk hp
  · rw [if_neg hp] at h
    exact absurd (show (2 : Int32) = 0 from h) (by decide)
theorem r_fill {N : Nat → Int32} {m S t : Nat} {v : Int32} (hR : rOk N m S t) (h : (u_fill N S v).1 = 0) : rOk (fillN v.toNatClampNeg S 16 N) m S t := by
  have hm := hR.1.1.2.2.2.1
  rw [u_fill] at h
  cases h1 : inB v 0 (N 3 - 1) with
  | false => rw [h1] at h; exact absurd (show (1 : Int32) = 0 from h) (by decide)
  | true =>
  obtain ⟨k, hk, hv⟩ := inB_n (by omega) hR.1.1.1 h1
  rw [hv, clamp_nn (by omega)]
  exact rOk_fill hk 16 N hR
theorem r_trip {G0 N : Nat → Int32} {m S t : Nat} (hR : rOk N m S t) (h : (u_trip N (trN G0 N m S t) m S).1 = 0) : rOk (trN G0 N m S t) m S t := by
  obtain ⟨D, d1, d2⟩ := hR.2.2.2.1
  rw [u_trip] at h
  by_cases hw : whyN N m S = 0
  · rw [if_pos hw] at h
    by_cases h9 : N 6 = 9999
    · rw [if_pos h9] at h
      exact absurd (show (1 : Int32) = 0 from h) (by decide)
    · refine rOk_trip hR d1 ?_
      rcases Nat.lt_or_ge D 9999 with h8 | h8
      · exact h8
      · exact absurd (by rw [d1, show D = 9999 by omega]; rfl) h9
  · rw [if_neg hw] at h
    exact absurd (show (1 : Int32) = 0 from h) (by decide)
theorem r_rest {N : Nat → Int32} {m S t : Nat} {v : Int32} (hR : rOk N m S t) (h : (u_rest N m v).1 = 0) : rOk (restN m N v.toNatClampNeg) m S t := by
  obtain ⟨D, d1, d2⟩ := hR.2.2.2.1
  rw [u_rest] at h
  cases h1 : inB v 1 99 with
  | false => rw [h1] at h; exact absurd (show (1 : Int32) = 0 from h) (by decide)
  | true =>
  obtain ⟨n, n1, n2, hv⟩ := inB_r (a := 1) (n := 99) (by omega) (by omega) h1
  rw [h1, cond_true, hv, d1, i_add] at h
  rw [hv, clamp_nn (by omega)]
  by_cases h9 : 9999 < Int32.ofNat (D + n)
  · rw [if_pos h9] at h
    exact absurd (show (2 : Int32) = 0 from h) (by decide)
  · rw [show (9999 : Int32) = Int32.ofNat 9999 from rfl, i_lt (by omega) (by omega)] at h9
    exact rOk_rest hR d1 (by omega)
theorem r_addSack {N : Nat → Int32} {m S t : Nat} {kd w v : Int32} (hR : rOk N m S t) (h : (u_addSack S kd w v).1 = 0) : rOk (bringsN N S kd w v) m (S + 1) t := by
  have hS := hR.1.1.2.2.2.2.1
  rw [u_addSack] at h
  cases h1 : inB w 1 99 with
  | false => rw [h1, Bool.false_and, Bool.and_false] at h; exact absurd (show (1 : Int32) = 0 from h) (by decide)
  | true =>
  obtain ⟨n, n1, n2, hw⟩ := inB_r (a := 1) (n := 99) (by omega) (by omega) h1
  by_cases h9 : S = 16
  · rw [if_pos h9] at h
    cases hb : inB kd 0 3 && (inB w 1 99 && inB v 0 999) with
    | false => rw [hb] at h; exact absurd (show (1 : Int32) = 0 from h) (by decide)
    | true => rw [hb] at h; exact absurd (show (2 : Int32) = 0 from h) (by decide)
  · rw [hw]
    exact rOk_brings hR (by omega) n1 n2
theorem r_addStage {N : Nat → Int32} {m S t : Nat} {kd n : Int32} (hR : rOk N m S t) (h : (u_addStage t kd n).1 = 0) : rOk (leadsN N t kd n) m S (t + 1) := by
  have ht := hR.1.1.2.2.2.2.2.1
  rw [u_addStage] at h
  cases h1 : inB kd 0 2 with
  | false => rw [h1, Bool.false_and] at h; exact absurd (show (1 : Int32) = 0 from h) (by decide)
  | true =>
  cases h2 : inB n 1 (mostS kd) with
  | false => rw [h1, h2, Bool.and_false] at h; exact absurd (show (1 : Int32) = 0 from h) (by decide)
  | true =>
  rw [h1, h2, Bool.and_self, cond_true] at h
  by_cases h9 : t = 8
  · rw [if_pos h9] at h
    exact absurd (show (2 : Int32) = 0 from h) (by decide)
  · obtain ⟨k, hk, hv⟩ := inB_c (n := 2) (by omega) h1
    subst hv
    rcases (show k = 0 ∨ k = 1 ∨ k = 2 by omega) with rfl | rfl | rfl
    · obtain ⟨x, x1, x2, hx⟩ := inB_r (a := 1) (n := 99) (by omega) (by omega) (show inB n 1 99 = true from h2)
      rw [hx]
      exact rOk_leads hR (by omega) (by omega) x1 x2 (fun h => by omega)
    · obtain ⟨x, x1, x2, hx⟩ := inB_r (a := 1) (n := 9) (by omega) (by omega) (show inB n 1 9 = true from h2)
      rw [hx]
      exact rOk_leads hR (by omega) (by omega) x1 (by omega) (fun h => by omega)
    · obtain ⟨x, x1, x2, hx⟩ := inB_r (a := 1) (n := 24) (by omega) (by omega) (show inB n 1 24 = true from h2)
      rw [hx]
      exact rOk_leads hR (by omega) (by omega) x1 (by omega) (fun h => by omega)
theorem r_drop {N : Nat → Int32} {m S t : Nat} {v : Int32} (hR : rOk N m S t) (h : (u_drop N t v).1 = 0) : rOk (dropF (upd N 5 (Int32.ofNat (t - 1))) (191 + 2 * v.toNatClampNeg) (191 + 2 * (t - 1))) m S (t - 1) := by
  have ht := hR.1.1.2.2.2.2.2.1
  rw [u_drop] at h
  cases h1 : inB v 0 (N 5 - 1) with
  | false => rw [h1] at h; exact absurd (show (1 : Int32) = 0 from h) (by decide)
  | true =>
  obtain ⟨k, hk, hv⟩ := inB_n (by omega) hR.1.1.2.2.1 h1
  rw [hv, clamp_nn (by omega)]
  exact rOk_drop hR hk
theorem r_set {N : Nat → Int32} {m S t : Nat} {w v : Int32} (hR : rOk N m S t) (h : (u_set N w v).1 = 0) : rOk (upd N w.toNatClampNeg v) m S t := by
  rw [u_set] at h
  cases h1 : inB w 0 2 with
  | false => rw [h1, Bool.false_and] at h; exact absurd (show (1 : Int32) = 0 from h) (by decide)
  | true =>
  cases h2 : inB v 0 (mostT w) with
  | false => rw [h1, h2, Bool.and_false] at h; exact absurd (show (1 : Int32) = 0 from h) (by decide)
  | true =>
  obtain ⟨k, hk, hw⟩ := inB_c (n := 2) (by omega) h1
  subst hw
  rw [clamp_nn (by omega)]
  rcases (show k = 0 ∨ k = 1 ∨ k = 2 by omega) with rfl | rfl | rfl
  · obtain ⟨e, e1, e2⟩ := inB_c (n := 99) (by omega) (show inB v 0 99 = true from h2)
    rw [e2]
    exact rOk_set hR (by omega) (fun h => by omega)
  · obtain ⟨e, e1, e2⟩ := inB_c (n := 50) (by omega) (show inB v 0 50 = true from h2)
    rw [e2]
    exact rOk_set hR (by omega) (fun h => by omega)
  · obtain ⟨e, e1, e2⟩ := inB_c (n := 50) (by omega) (show inB v 0 50 = true from h2)
    rw [e2]
    exact rOk_set hR (by omega) (fun h => by omega)
section LAW
variable {hs : Nat → Int32} {d len sb i c s : Nat} {f : Nat → Int32} {ext : List sh} {M : mM} {Q : mQ} {v6 v7 v8 v9 : Value}
theorem law_pack (hI : Inv sb ext M) (hi : i + 6 ≤ len) (hlen : len ≤ 3072) (hK : Lcont (RO9 hs len f) (d + 30) Q ext i c s) : GoP (RO9 hs len f) (d + 30) 358 (lawL i v6 v7 v8 v9) [] (gW sb ext) M 1507 c s Q := by
  obtain ⟨m, S, t, nx, cc, hT, hR, hw, hH⟩ := hI.parts
  obtain ⟨D, d1, d2⟩ := hR.2.2.2.1
  have hc := hH.2.1
  have hc7 := hH.2.2.2.2.1
  have hkey := hI.2.2.2.2.2.2.2
  refine wp_sound [1513, 1519, 1525, 1538, 1544, 1550, 2408] 90 _ _ _ _ _ _ _ ?_
  refine go_ald (j := i + 1) rfl (i_add i 1) (by omega) (by omega) ?_
  refine wp_sound [1513, 1519, 1525, 1538, 1544, 1550, 2408] 90 _ _ _ _ _ _ _ ?_
  refine go_ald (j := i + 2) rfl (i_add i 2) (by omega) (by omega) ?_
  refine wp_sound [1513, 1519, 1525, 1538, 1544, 1550, 2408] 90 _ _ _ _ _ _ _ ?_
  refine go_ald (j := i + 3) rfl (i_add i 3) (by omega) (by omega) ?_
  refine wp_sound [1513, 1519, 1525, 1538, 1544, 1550, 2408] 90 _ _ _ _ _ _ _ ?_
  refine w_pack hT hR hH ⟨fun hne => ?_, fun he M1 hT1 hF ho => ?_⟩
  · refine go_ald (j := i + 1) rfl (i_add i 1) (by omega) (by omega) ?_
    refine wp_sound [1513, 1519, 1525, 1538, 1544, 1550, 2408] 90 _ _ _ _ _ _ _ ?_
    refine go_ald (j := i + 2) rfl (i_add i 2) (by omega) (by omega) ?_
    refine wp_sound [1513, 1519, 1525, 1538, 1544, 1550, 2408] 90 _ _ _ _ _ _ _ ?_
    refine go_ald (j := i + 3) rfl (i_add i 3) (by omega) (by omega) ?_
    refine wp_sound [1513, 1519, 1525, 1538, 1544, 1550, 2408] 90 _ _ _ _ _ _ _ ?_
    refine m_pack rfl hR.1.1 hc hc7 ⟨fun hne2 => ?_, fun he2 => absurd he2 hne⟩
    refine e_thrown.use ?_
    refine ⟨fun _ => ?_, fun h => absurd thr_3 h⟩
    refine ⟨fun h0 => absurd h0 hne, fun _ => ?_⟩
    exact hK _ _ _ _ _ _ _ _ _ (hI.fr (FrL.of FrQ.refl FrM.refl.thr)) (by omega) (by omega)
  · have hx : ∀ q, 140 < q → q ≠ 157 → M1 q = M q := fun q h1 h2 => by rw [hF q (by omega) h2, his_hi hH.1 h1]
    have e149 : M1 149 = M 149 := hx 149 (by omega) (by omega)
    have e153 : M1 153 = M 153 := hx 153 (by omega) (by omega)
    have e145 : M1 145 = M 145 := hx 145 (by omega) (by omega)
    have e146 : M1 146 = M 146 := hx 146 (by omega) (by omega)
    have e147 : M1 147 = M 147 := hx 147 (by omega) (by omega)
    refine go_ald (j := i + 1) rfl (i_add i 1) (by omega) (by omega) ?_
    refine wp_sound [1513, 1519, 1525, 1538, 1544, 1550, 2408] 90 _ _ _ _ _ _ _ ?_
    refine go_ald (j := i + 2) rfl (i_add i 2) (by omega) (by omega) ?_
    refine wp_sound [1513, 1519, 1525, 1538, 1544, 1550, 2408] 90 _ _ _ _ _ _ _ ?_
    refine go_ald (j := i + 3) rfl (i_add i 3) (by omega) (by omega) ?_
    refine wp_sound [1513, 1519, 1525, 1538, 1544, 1550, 2408] 90 _ _ _ _ _ _ _ ?_
    refine m_pack e149 hR.1.1 hc (by rw [e145]; exact hc7) ⟨fun hne2 => absurd he hne2, fun he2 M2 b hD hb => ?_⟩
    have o157 : M2 157 = M1 157 := hD.2.2.2.2.2 157 (by omega) (by omega) (by omega) (by omega)
    refine e_thrown.use ?_
    refine ⟨fun _ => ?_, fun h => absurd hD.2.2.2.1 h⟩
    refine ⟨fun _ => ?_, fun h => absurd rfl h⟩
    refine ⟨0, rfl, by omega, ?_⟩
    refine ⟨fun _ => ?_, fun h => absurd ?_ h⟩
    · exact hK _ _ _ _ _ _ _ _ _ (inv_do hI hT hR hH hT1 (r_pack hR he) hF hD) (by omega) (by omega)
    · rw [o157, ho, hb]; exact lcmp_self
theorem law_unpack (hI : Inv sb ext M) (hi : i + 6 ≤ len) (hlen : len ≤ 3072) (hK : Lcont (RO9 hs len f) (d + 30) Q ext i c s) : GoP (RO9 hs len f) (d + 30) 358 (lawL i v6 v7 v8 v9) [] (gW sb ext) M 1587 c s Q := by
  obtain ⟨m, S, t, nx, cc, hT, hR, hw, hH⟩ := hI.parts
  obtain ⟨D, d1, d2⟩ := hR.2.2.2.1
  have hc := hH.2.1
  have hc7 := hH.2.2.2.2.1
  have hkey := hI.2.2.2.2.2.2.2
  refine wp_sound [1593, 1606, 2408] 90 _ _ _ _ _ _ _ ?_
  refine go_ald (j := i + 1) rfl (i_add i 1) (by omega) (by omega) ?_
  refine wp_sound [1593, 1606, 2408] 90 _ _ _ _ _ _ _ ?_
  refine w_unpack hT hR hH ⟨fun hne => ?_, fun he M1 hT1 hF ho => ?_⟩
  · refine go_ald (j := i + 1) rfl (i_add i 1) (by omega) (by omega) ?_
    refine wp_sound [1593, 1606, 2408] 90 _ _ _ _ _ _ _ ?_
    refine m_unpack rfl hR.1.1 hc hc7 ⟨fun hne2 => ?_, fun he2 => absurd he2 hne⟩
    refine e_thrown.use ?_
    refine ⟨fun _ => ?_, fun h => absurd thr_3 h⟩
    refine ⟨fun h0 => absurd h0 hne, fun _ => ?_⟩
    exact hK _ _ _ _ _ _ _ _ _ (hI.fr (FrL.of FrQ.refl FrM.refl.thr)) (by omega) (by omega)
  · have hx : ∀ q, 140 < q → q ≠ 157 → M1 q = M q := fun q h1 h2 => by rw [hF q (by omega) h2, his_hi hH.1 h1]
    have e149 : M1 149 = M 149 := hx 149 (by omega) (by omega)
    have e153 : M1 153 = M 153 := hx 153 (by omega) (by omega)
    have e145 : M1 145 = M 145 := hx 145 (by omega) (by omega)
    have e146 : M1 146 = M 146 := hx 146 (by omega) (by omega)
    have e147 : M1 147 = M 147 := hx 147 (by omega) (by omega)
    refine go_ald (j := i + 1) rfl (i_add i 1) (by omega) (by omega) ?_
    refine wp_sound [1593, 1606, 2408] 90 _ _ _ _ _ _ _ ?_
    refine m_unpack e149 hR.1.1 hc (by rw [e145]; exact hc7) ⟨fun hne2 => absurd he hne2, fun he2 M2 b hD hb => ?_⟩
    have o157 : M2 157 = M1 157 := hD.2.2.2.2.2 157 (by omega) (by omega) (by omega) (by omega)
    refine e_thrown.use ?_
    refine ⟨fun _ => ?_, fun h => absurd hD.2.2.2.1 h⟩
    refine ⟨fun _ => ?_, fun h => absurd rfl h⟩
    refine ⟨0, rfl, by omega, ?_⟩
    refine ⟨fun _ => ?_, fun h => absurd ?_ h⟩
    · exact hK _ _ _ _ _ _ _ _ _ (inv_do hI hT hR hH hT1 (r_unpack hR he) hF hD) (by omega) (by omega)
    · rw [o157, ho, hb]; exact lcmp_self
theorem law_fill (hI : Inv sb ext M) (hi : i + 6 ≤ len) (hlen : len ≤ 3072) (hK : Lcont (RO9 hs len f) (d + 30) Q ext i c s) : GoP (RO9 hs len f) (d + 30) 358 (lawL i v6 v7 v8 v9) [] (gW sb ext) M 1643 c s Q := by
  obtain ⟨m, S, t, nx, cc, hT, hR, hw, hH⟩ := hI.parts
  obtain ⟨D, d1, d2⟩ := hR.2.2.2.1
  have hc := hH.2.1
  have hc7 := hH.2.2.2.2.1
  have hkey := hI.2.2.2.2.2.2.2
  refine wp_sound [1649, 1662, 2408] 90 _ _ _ _ _ _ _ ?_
  refine go_ald (j := i + 1) rfl (i_add i 1) (by omega) (by omega) ?_
  refine wp_sound [1649, 1662, 2408] 90 _ _ _ _ _ _ _ ?_
  refine w_fill hT hR hH ⟨fun hne => ?_, fun he M1 hT1 hF ho => ?_⟩
  · refine go_ald (j := i + 1) rfl (i_add i 1) (by omega) (by omega) ?_
    refine wp_sound [1649, 1662, 2408] 90 _ _ _ _ _ _ _ ?_
    refine m_fill rfl hR.1.1 hc hc7 ⟨fun hne2 => ?_, fun he2 => absurd he2 hne⟩
    refine e_thrown.use ?_
    refine ⟨fun _ => ?_, fun h => absurd thr_3 h⟩
    refine ⟨fun h0 => absurd h0 hne, fun _ => ?_⟩
    exact hK _ _ _ _ _ _ _ _ _ (hI.fr (FrL.of FrQ.refl FrM.refl.thr)) (by omega) (by omega)
  · have hx : ∀ q, 140 < q → q ≠ 157 → M1 q = M q := fun q h1 h2 => by rw [hF q (by omega) h2, his_hi hH.1 h1]
    have e149 : M1 149 = M 149 := hx 149 (by omega) (by omega)
    have e153 : M1 153 = M 153 := hx 153 (by omega) (by omega)
    have e145 : M1 145 = M 145 := hx 145 (by omega) (by omega)
    have e146 : M1 146 = M 146 := hx 146 (by omega) (by omega)
    have e147 : M1 147 = M 147 := hx 147 (by omega) (by omega)
    refine go_ald (j := i + 1) rfl (i_add i 1) (by omega) (by omega) ?_
    refine wp_sound [1649, 1662, 2408] 90 _ _ _ _ _ _ _ ?_
    refine m_fill e149 hR.1.1 hc (by rw [e145]; exact hc7) ⟨fun hne2 => absurd he hne2, fun he2 M2 b hD hb => ?_⟩
    have o157 : M2 157 = M1 157 := hD.2.2.2.2.2 157 (by omega) (by omega) (by omega) (by omega)
    refine e_thrown.use ?_
    refine ⟨fun _ => ?_, fun h => absurd hD.2.2.2.1 h⟩
    refine ⟨fun _ => ?_, fun h => absurd rfl h⟩
    refine ⟨0, rfl, by omega, ?_⟩
    refine ⟨fun _ => ?_, fun h => absurd ?_ h⟩
    · exact hK _ _ _ _ _ _ _ _ _ (inv_do hI hT hR hH hT1 (r_fill hR he) hF hD) (by omega) (by omega)
    · rw [o157, ho, hb]; exact lcmp_self
theorem law_shift (hI : Inv sb ext M) (hi : i + 6 ≤ len) (hlen : len ≤ 3072) (hK : Lcont (RO9 hs len f) (d + 30) Q ext i c s) : GoP (RO9 hs len f) (d + 30) 358 (lawL i v6 v7 v8 v9) [] (gW sb ext) M 1699 c s Q := by
  obtain ⟨m, S, t, nx, cc, hT, hR, hw, hH⟩ := hI.parts
  obtain ⟨D, d1, d2⟩ := hR.2.2.2.1
  have hc := hH.2.1
  have hc7 := hH.2.2.2.2.1
  have hkey := hI.2.2.2.2.2.2.2
  refine wp_sound [1705, 1718, 2408] 90 _ _ _ _ _ _ _ ?_
  refine go_ald (j := i + 1) rfl (i_add i 1) (by omega) (by omega) ?_
  refine wp_sound [1705, 1718, 2408] 90 _ _ _ _ _ _ _ ?_
  refine w_shift hT hR hH ⟨fun hne => ?_, fun he M1 hT1 hF ho => ?_⟩
  · refine go_ald (j := i + 1) rfl (i_add i 1) (by omega) (by omega) ?_
    refine wp_sound [1705, 1718, 2408] 90 _ _ _ _ _ _ _ ?_
    refine m_shift rfl hR.1.1 hc hc7 ⟨fun hne2 => ?_, fun he2 => absurd he2 hne⟩
    refine e_thrown.use ?_
    refine ⟨fun _ => ?_, fun h => absurd thr_3 h⟩
    refine ⟨fun h0 => absurd h0 hne, fun _ => ?_⟩
    exact hK _ _ _ _ _ _ _ _ _ (hI.fr (FrL.of FrQ.refl FrM.refl.thr)) (by omega) (by omega)
  · have hx : ∀ q, 140 < q → q ≠ 157 → M1 q = M q := fun q h1 h2 => by rw [hF q (by omega) h2, his_hi hH.1 h1]
    have e149 : M1 149 = M 149 := hx 149 (by omega) (by omega)
    have e153 : M1 153 = M 153 := hx 153 (by omega) (by omega)
    have e145 : M1 145 = M 145 := hx 145 (by omega) (by omega)
    have e146 : M1 146 = M 146 := hx 146 (by omega) (by omega)
    have e147 : M1 147 = M 147 := hx 147 (by omega) (by omega)
    refine go_ald (j := i + 1) rfl (i_add i 1) (by omega) (by omega) ?_
    refine wp_sound [1705, 1718, 2408] 90 _ _ _ _ _ _ _ ?_
    refine m_shift e149 hR.1.1 hc (by rw [e145]; exact hc7) ⟨fun hne2 => absurd he hne2, fun he2 M2 b hD hb => ?_⟩
    have o157 : M2 157 = M1 157 := hD.2.2.2.2.2 157 (by omega) (by omega) (by omega) (by omega)
    refine e_thrown.use ?_
    refine ⟨fun _ => ?_, fun h => absurd hD.2.2.2.1 h⟩
    refine ⟨fun _ => ?_, fun h => absurd rfl h⟩
    refine ⟨0, rfl, by omega, ?_⟩
    refine ⟨fun _ => ?_, fun h => absurd ?_ h⟩
    · exact hK _ _ _ _ _ _ _ _ _ (inv_do hI hT hR hH hT1 (r_shift hR he) hF hD) (by omega) (by omega)
    · rw [o157, ho, hb]; exact lcmp_self
theorem law_trip (hI : Inv sb ext M) (hi : i + 6 ≤ len) (hlen : len ≤ 3072) (hK : Lcont (RO9 hs len f) (d + 30) Q ext i c s) : GoP (RO9 hs len f) (d + 30) 358 (lawL i v6 v7 v8 v9) [] (gW sb ext) M 1755 c s Q := by
  obtain ⟨m, S, t, nx, cc, hT, hR, hw, hH⟩ := hI.parts
  obtain ⟨D, d1, d2⟩ := hR.2.2.2.1
  have hc := hH.2.1
  have hc7 := hH.2.2.2.2.1
  have hkey := hI.2.2.2.2.2.2.2
  refine wp_sound [2408] 90 _ _ _ _ _ _ _ ?_
  refine w_trip (G0 := M 153) hT hR hH ⟨fun hne => ?_, fun he M1 hT1 hF ho => ?_⟩
  · refine m_trip rfl rfl hR.1.1 hc hc7 d1 d2 ⟨fun hne2 => ?_, fun he2 => absurd he2 hne⟩
    refine e_thrown.use ?_
    refine ⟨fun _ => ?_, fun h => absurd thr_3 h⟩
    refine ⟨fun h0 => absurd h0 hne, fun _ => ?_⟩
    exact hK _ _ _ _ _ _ _ _ _ (hI.fr (FrL.of FrQ.refl FrM.refl.thr)) (by omega) (by omega)
  · have hx : ∀ q, 140 < q → q ≠ 157 → M1 q = M q := fun q h1 h2 => by rw [hF q (by omega) h2, his_hi hH.1 h1]
    have e149 : M1 149 = M 149 := hx 149 (by omega) (by omega)
    have e153 : M1 153 = M 153 := hx 153 (by omega) (by omega)
    have e145 : M1 145 = M 145 := hx 145 (by omega) (by omega)
    have e146 : M1 146 = M 146 := hx 146 (by omega) (by omega)
    have e147 : M1 147 = M 147 := hx 147 (by omega) (by omega)
    refine m_trip e149 e153 hR.1.1 hc (by rw [e145]; exact hc7) d1 d2 ⟨fun hne2 => absurd he hne2, fun he2 M2 b hD hb => ?_⟩
    have o157 : M2 157 = M1 157 := hD.2.2.2.2.2 157 (by omega) (by omega) (by omega) (by omega)
    refine e_thrown.use ?_
    refine ⟨fun _ => ?_, fun h => absurd hD.2.2.2.1 h⟩
    refine ⟨fun _ => ?_, fun h => absurd rfl h⟩
    refine ⟨0, rfl, by omega, ?_⟩
    refine ⟨fun _ => ?_, fun h => absurd ?_ h⟩
    · exact hK _ _ _ _ _ _ _ _ _ (inv_do hI hT hR hH hT1 (r_trip hR he) hF hD) (by omega) (by omega)
    · rw [o157, ho, hb]; exact lcmp_self
theorem law_rest (hI : Inv sb ext M) (hi : i + 6 ≤ len) (hlen : len ≤ 3072) (hK : Lcont (RO9 hs len f) (d + 30) Q ext i c s) : GoP (RO9 hs len f) (d + 30) 358 (lawL i v6 v7 v8 v9) [] (gW sb ext) M 1799 c s Q := by
  obtain ⟨m, S, t, nx, cc, hT, hR, hw, hH⟩ := hI.parts
  obtain ⟨D, d1, d2⟩ := hR.2.2.2.1
  have hc := hH.2.1
  have hc7 := hH.2.2.2.2.1
  have hkey := hI.2.2.2.2.2.2.2
  refine wp_sound [1805, 1818, 2408] 90 _ _ _ _ _ _ _ ?_
  refine go_ald (j := i + 1) rfl (i_add i 1) (by omega) (by omega) ?_
  refine wp_sound [1805, 1818, 2408] 90 _ _ _ _ _ _ _ ?_
  refine w_rest hT hR hH ⟨fun hne => ?_, fun he M1 hT1 hF ho => ?_⟩
  · refine go_ald (j := i + 1) rfl (i_add i 1) (by omega) (by omega) ?_
    refine wp_sound [1805, 1818, 2408] 90 _ _ _ _ _ _ _ ?_
    refine m_rest rfl hR.1.1 hc hc7 d1 d2 ⟨fun hne2 => ?_, fun he2 => absurd he2 hne⟩
    refine e_thrown.use ?_
    refine ⟨fun _ => ?_, fun h => absurd thr_3 h⟩
    refine ⟨fun h0 => absurd h0 hne, fun _ => ?_⟩
    exact hK _ _ _ _ _ _ _ _ _ (hI.fr (FrL.of FrQ.refl FrM.refl.thr)) (by omega) (by omega)
  · have hx : ∀ q, 140 < q → q ≠ 157 → M1 q = M q := fun q h1 h2 => by rw [hF q (by omega) h2, his_hi hH.1 h1]
    have e149 : M1 149 = M 149 := hx 149 (by omega) (by omega)
    have e153 : M1 153 = M 153 := hx 153 (by omega) (by omega)
    have e145 : M1 145 = M 145 := hx 145 (by omega) (by omega)
    have e146 : M1 146 = M 146 := hx 146 (by omega) (by omega)
    have e147 : M1 147 = M 147 := hx 147 (by omega) (by omega)
    refine go_ald (j := i + 1) rfl (i_add i 1) (by omega) (by omega) ?_
    refine wp_sound [1805, 1818, 2408] 90 _ _ _ _ _ _ _ ?_
    refine m_rest e149 hR.1.1 hc (by rw [e145]; exact hc7) d1 d2 ⟨fun hne2 => absurd he hne2, fun he2 M2 b hD hb => ?_⟩
    have o157 : M2 157 = M1 157 := hD.2.2.2.2.2 157 (by omega) (by omega) (by omega) (by omega)
    refine e_thrown.use ?_
    refine ⟨fun _ => ?_, fun h => absurd hD.2.2.2.1 h⟩
    refine ⟨fun _ => ?_, fun h => absurd rfl h⟩
    refine ⟨0, rfl, by omega, ?_⟩
    refine ⟨fun _ => ?_, fun h => absurd ?_ h⟩
    · exact hK _ _ _ _ _ _ _ _ _ (inv_do hI hT hR hH hT1 (r_rest hR he) hF hD) (by omega) (by omega)
    · rw [o157, ho, hb]; exact lcmp_self
theorem law_addSack (hI : Inv sb ext M) (hi : i + 6 ≤ len) (hlen : len ≤ 3072) (hK : Lcont (RO9 hs len f) (d + 30) Q ext i c s) : GoP (RO9 hs len f) (d + 30) 358 (lawL i v6 v7 v8 v9) [] (gW sb ext) M 1855 c s Q := by
  obtain ⟨m, S, t, nx, cc, hT, hR, hw, hH⟩ := hI.parts
  obtain ⟨D, d1, d2⟩ := hR.2.2.2.1
  have hc := hH.2.1
  have hc7 := hH.2.2.2.2.1
  have hkey := hI.2.2.2.2.2.2.2
  refine wp_sound [1861, 1867, 1873, 1886, 1892, 1898, 2408] 90 _ _ _ _ _ _ _ ?_
  refine go_ald (j := i + 1) rfl (i_add i 1) (by omega) (by omega) ?_
  refine wp_sound [1861, 1867, 1873, 1886, 1892, 1898, 2408] 90 _ _ _ _ _ _ _ ?_
  refine go_ald (j := i + 2) rfl (i_add i 2) (by omega) (by omega) ?_
  refine wp_sound [1861, 1867, 1873, 1886, 1892, 1898, 2408] 90 _ _ _ _ _ _ _ ?_
  refine go_ald (j := i + 3) rfl (i_add i 3) (by omega) (by omega) ?_
  refine wp_sound [1861, 1867, 1873, 1886, 1892, 1898, 2408] 90 _ _ _ _ _ _ _ ?_
  refine w_addSack hT hR hH ⟨fun hne => ?_, fun he M1 hT1 hF ho => ?_⟩
  · refine go_ald (j := i + 1) rfl (i_add i 1) (by omega) (by omega) ?_
    refine wp_sound [1861, 1867, 1873, 1886, 1892, 1898, 2408] 90 _ _ _ _ _ _ _ ?_
    refine go_ald (j := i + 2) rfl (i_add i 2) (by omega) (by omega) ?_
    refine wp_sound [1861, 1867, 1873, 1886, 1892, 1898, 2408] 90 _ _ _ _ _ _ _ ?_
    refine go_ald (j := i + 3) rfl (i_add i 3) (by omega) (by omega) ?_
    refine wp_sound [1861, 1867, 1873, 1886, 1892, 1898, 2408] 90 _ _ _ _ _ _ _ ?_
    refine m_addSack rfl hR.1.1 hc hc7 ⟨fun hne2 => ?_, fun he2 => absurd he2 hne⟩
    refine e_thrown.use ?_
    refine ⟨fun _ => ?_, fun h => absurd thr_3 h⟩
    refine ⟨fun h0 => absurd h0 hne, fun _ => ?_⟩
    exact hK _ _ _ _ _ _ _ _ _ (hI.fr (FrL.of FrQ.refl FrM.refl.thr)) (by omega) (by omega)
  · have hx : ∀ q, 140 < q → q ≠ 157 → M1 q = M q := fun q h1 h2 => by rw [hF q (by omega) h2, his_hi hH.1 h1]
    have e149 : M1 149 = M 149 := hx 149 (by omega) (by omega)
    have e153 : M1 153 = M 153 := hx 153 (by omega) (by omega)
    have e145 : M1 145 = M 145 := hx 145 (by omega) (by omega)
    have e146 : M1 146 = M 146 := hx 146 (by omega) (by omega)
    have e147 : M1 147 = M 147 := hx 147 (by omega) (by omega)
    refine go_ald (j := i + 1) rfl (i_add i 1) (by omega) (by omega) ?_
    refine wp_sound [1861, 1867, 1873, 1886, 1892, 1898, 2408] 90 _ _ _ _ _ _ _ ?_
    refine go_ald (j := i + 2) rfl (i_add i 2) (by omega) (by omega) ?_
    refine wp_sound [1861, 1867, 1873, 1886, 1892, 1898, 2408] 90 _ _ _ _ _ _ _ ?_
    refine go_ald (j := i + 3) rfl (i_add i 3) (by omega) (by omega) ?_
    refine wp_sound [1861, 1867, 1873, 1886, 1892, 1898, 2408] 90 _ _ _ _ _ _ _ ?_
    refine m_addSack e149 hR.1.1 hc (by rw [e145]; exact hc7) ⟨fun hne2 => absurd he hne2, fun he2 M2 b hD hb => ?_⟩
    have o157 : M2 157 = M1 157 := hD.2.2.2.2.2 157 (by omega) (by omega) (by omega) (by omega)
    refine e_thrown.use ?_
    refine ⟨fun _ => ?_, fun h => absurd hD.2.2.2.1 h⟩
    refine ⟨fun _ => ?_, fun h => absurd rfl h⟩
    refine ⟨0, rfl, by omega, ?_⟩
    refine ⟨fun _ => ?_, fun h => absurd ?_ h⟩
    · exact hK _ _ _ _ _ _ _ _ _ (inv_do hI hT hR hH hT1 (r_addSack hR he) hF hD) (by omega) (by omega)
    · rw [o157, ho, hb]; exact lcmp_self
theorem law_addStage (hI : Inv sb ext M) (hi : i + 6 ≤ len) (hlen : len ≤ 3072) (hK : Lcont (RO9 hs len f) (d + 30) Q ext i c s) : GoP (RO9 hs len f) (d + 30) 358 (lawL i v6 v7 v8 v9) [] (gW sb ext) M 1935 c s Q := by
  obtain ⟨m, S, t, nx, cc, hT, hR, hw, hH⟩ := hI.parts
  obtain ⟨D, d1, d2⟩ := hR.2.2.2.1
  have hc := hH.2.1
  have hc7 := hH.2.2.2.2.1
  have hkey := hI.2.2.2.2.2.2.2
  refine wp_sound [1941, 1947, 1960, 1966, 2408] 90 _ _ _ _ _ _ _ ?_
  refine go_ald (j := i + 1) rfl (i_add i 1) (by omega) (by omega) ?_
  refine wp_sound [1941, 1947, 1960, 1966, 2408] 90 _ _ _ _ _ _ _ ?_
  refine go_ald (j := i + 2) rfl (i_add i 2) (by omega) (by omega) ?_
  refine wp_sound [1941, 1947, 1960, 1966, 2408] 90 _ _ _ _ _ _ _ ?_
  refine w_addStage hT hR hH ⟨fun hne => ?_, fun he M1 hT1 hF ho => ?_⟩
  · refine go_ald (j := i + 1) rfl (i_add i 1) (by omega) (by omega) ?_
    refine wp_sound [1941, 1947, 1960, 1966, 2408] 90 _ _ _ _ _ _ _ ?_
    refine go_ald (j := i + 2) rfl (i_add i 2) (by omega) (by omega) ?_
    refine wp_sound [1941, 1947, 1960, 1966, 2408] 90 _ _ _ _ _ _ _ ?_
    refine m_addStage rfl hkey.2.2 hR.1.1 hc hc7 ⟨fun hne2 => ?_, fun he2 => absurd he2 hne⟩
    refine e_thrown.use ?_
    refine ⟨fun _ => ?_, fun h => absurd thr_3 h⟩
    refine ⟨fun h0 => absurd h0 hne, fun _ => ?_⟩
    exact hK _ _ _ _ _ _ _ _ _ (hI.fr (FrL.of FrQ.refl FrM.refl.thr)) (by omega) (by omega)
  · have hx : ∀ q, 140 < q → q ≠ 157 → M1 q = M q := fun q h1 h2 => by rw [hF q (by omega) h2, his_hi hH.1 h1]
    have e149 : M1 149 = M 149 := hx 149 (by omega) (by omega)
    have e153 : M1 153 = M 153 := hx 153 (by omega) (by omega)
    have e145 : M1 145 = M 145 := hx 145 (by omega) (by omega)
    have e146 : M1 146 = M 146 := hx 146 (by omega) (by omega)
    have e147 : M1 147 = M 147 := hx 147 (by omega) (by omega)
    refine go_ald (j := i + 1) rfl (i_add i 1) (by omega) (by omega) ?_
    refine wp_sound [1941, 1947, 1960, 1966, 2408] 90 _ _ _ _ _ _ _ ?_
    refine go_ald (j := i + 2) rfl (i_add i 2) (by omega) (by omega) ?_
    refine wp_sound [1941, 1947, 1960, 1966, 2408] 90 _ _ _ _ _ _ _ ?_
    refine m_addStage e149 (by rw [e147]; exact hkey.2.2) hR.1.1 hc (by rw [e145]; exact hc7) ⟨fun hne2 => absurd he hne2, fun he2 M2 b hD hb => ?_⟩
    have o157 : M2 157 = M1 157 := hD.2.2.2.2.2 157 (by omega) (by omega) (by omega) (by omega)
    refine e_thrown.use ?_
    refine ⟨fun _ => ?_, fun h => absurd hD.2.2.2.1 h⟩
    refine ⟨fun _ => ?_, fun h => absurd rfl h⟩
    refine ⟨0, rfl, by omega, ?_⟩
    refine ⟨fun _ => ?_, fun h => absurd ?_ h⟩
    · exact hK _ _ _ _ _ _ _ _ _ (inv_do hI hT hR hH hT1 (r_addStage hR he) hF hD) (by omega) (by omega)
    · rw [o157, ho, hb]; exact lcmp_self
theorem law_dropStage (hI : Inv sb ext M) (hi : i + 6 ≤ len) (hlen : len ≤ 3072) (hK : Lcont (RO9 hs len f) (d + 30) Q ext i c s) : GoP (RO9 hs len f) (d + 30) 358 (lawL i v6 v7 v8 v9) [] (gW sb ext) M 2003 c s Q := by
  obtain ⟨m, S, t, nx, cc, hT, hR, hw, hH⟩ := hI.parts
  obtain ⟨D, d1, d2⟩ := hR.2.2.2.1
  have hc := hH.2.1
  have hc7 := hH.2.2.2.2.1
  have hkey := hI.2.2.2.2.2.2.2
  refine wp_sound [2009, 2022, 2408] 90 _ _ _ _ _ _ _ ?_
  refine go_ald (j := i + 1) rfl (i_add i 1) (by omega) (by omega) ?_
  refine wp_sound [2009, 2022, 2408] 90 _ _ _ _ _ _ _ ?_
  refine w_dropStage hT hR hH ⟨fun hne => ?_, fun he M1 hT1 hF ho => ?_⟩
  · refine go_ald (j := i + 1) rfl (i_add i 1) (by omega) (by omega) ?_
    refine wp_sound [2009, 2022, 2408] 90 _ _ _ _ _ _ _ ?_
    refine m_dropStage rfl hR.1.1 hc hc7 ⟨fun hne2 => ?_, fun he2 => absurd he2 hne⟩
    refine e_thrown.use ?_
    refine ⟨fun _ => ?_, fun h => absurd thr_3 h⟩
    refine ⟨fun h0 => absurd h0 hne, fun _ => ?_⟩
    exact hK _ _ _ _ _ _ _ _ _ (hI.fr (FrL.of FrQ.refl FrM.refl.thr)) (by omega) (by omega)
  · have hx : ∀ q, 140 < q → q ≠ 157 → M1 q = M q := fun q h1 h2 => by rw [hF q (by omega) h2, his_hi hH.1 h1]
    have e149 : M1 149 = M 149 := hx 149 (by omega) (by omega)
    have e153 : M1 153 = M 153 := hx 153 (by omega) (by omega)
    have e145 : M1 145 = M 145 := hx 145 (by omega) (by omega)
    have e146 : M1 146 = M 146 := hx 146 (by omega) (by omega)
    have e147 : M1 147 = M 147 := hx 147 (by omega) (by omega)
    refine go_ald (j := i + 1) rfl (i_add i 1) (by omega) (by omega) ?_
    refine wp_sound [2009, 2022, 2408] 90 _ _ _ _ _ _ _ ?_
    refine m_dropStage e149 hR.1.1 hc (by rw [e145]; exact hc7) ⟨fun hne2 => absurd he hne2, fun he2 M2 b hD hb => ?_⟩
    have o157 : M2 157 = M1 157 := hD.2.2.2.2.2 157 (by omega) (by omega) (by omega) (by omega)
    refine e_thrown.use ?_
    refine ⟨fun _ => ?_, fun h => absurd hD.2.2.2.1 h⟩
    refine ⟨fun _ => ?_, fun h => absurd rfl h⟩
    refine ⟨0, rfl, by omega, ?_⟩
    refine ⟨fun _ => ?_, fun h => absurd ?_ h⟩
    · exact hK _ _ _ _ _ _ _ _ _ (inv_do hI hT hR hH hT1 (r_drop hR he) hF hD) (by omega) (by omega)
    · rw [o157, ho, hb]; exact lcmp_self
theorem law_set (hI : Inv sb ext M) (hi : i + 6 ≤ len) (hlen : len ≤ 3072) (hK : Lcont (RO9 hs len f) (d + 30) Q ext i c s) : GoP (RO9 hs len f) (d + 30) 358 (lawL i v6 v7 v8 v9) [] (gW sb ext) M 2059 c s Q := by
  obtain ⟨m, S, t, nx, cc, hT, hR, hw, hH⟩ := hI.parts
  obtain ⟨D, d1, d2⟩ := hR.2.2.2.1
  have hc := hH.2.1
  have hc7 := hH.2.2.2.2.1
  have hkey := hI.2.2.2.2.2.2.2
  refine wp_sound [2065, 2071, 2084, 2090, 2408] 90 _ _ _ _ _ _ _ ?_
  refine go_ald (j := i + 1) rfl (i_add i 1) (by omega) (by omega) ?_
  refine wp_sound [2065, 2071, 2084, 2090, 2408] 90 _ _ _ _ _ _ _ ?_
  refine go_ald (j := i + 2) rfl (i_add i 2) (by omega) (by omega) ?_
  refine wp_sound [2065, 2071, 2084, 2090, 2408] 90 _ _ _ _ _ _ _ ?_
  refine w_set hT hR hH ⟨fun hne => ?_, fun he M1 hT1 hF ho => ?_⟩
  · refine go_ald (j := i + 1) rfl (i_add i 1) (by omega) (by omega) ?_
    refine wp_sound [2065, 2071, 2084, 2090, 2408] 90 _ _ _ _ _ _ _ ?_
    refine go_ald (j := i + 2) rfl (i_add i 2) (by omega) (by omega) ?_
    refine wp_sound [2065, 2071, 2084, 2090, 2408] 90 _ _ _ _ _ _ _ ?_
    refine m_set rfl hkey.2.1 hR.1.1 hc hc7 ⟨fun hne2 => ?_, fun he2 => absurd he2 hne⟩
    refine e_thrown.use ?_
    refine ⟨fun _ => ?_, fun h => absurd thr_3 h⟩
    refine ⟨fun h0 => absurd h0 hne, fun _ => ?_⟩
    exact hK _ _ _ _ _ _ _ _ _ (hI.fr (FrL.of FrQ.refl FrM.refl.thr)) (by omega) (by omega)
  · have hx : ∀ q, 140 < q → q ≠ 157 → M1 q = M q := fun q h1 h2 => by rw [hF q (by omega) h2, his_hi hH.1 h1]
    have e149 : M1 149 = M 149 := hx 149 (by omega) (by omega)
    have e153 : M1 153 = M 153 := hx 153 (by omega) (by omega)
    have e145 : M1 145 = M 145 := hx 145 (by omega) (by omega)
    have e146 : M1 146 = M 146 := hx 146 (by omega) (by omega)
    have e147 : M1 147 = M 147 := hx 147 (by omega) (by omega)
    refine go_ald (j := i + 1) rfl (i_add i 1) (by omega) (by omega) ?_
    refine wp_sound [2065, 2071, 2084, 2090, 2408] 90 _ _ _ _ _ _ _ ?_
    refine go_ald (j := i + 2) rfl (i_add i 2) (by omega) (by omega) ?_
    refine wp_sound [2065, 2071, 2084, 2090, 2408] 90 _ _ _ _ _ _ _ ?_
    refine m_set e149 (by rw [e146]; exact hkey.2.1) hR.1.1 hc (by rw [e145]; exact hc7) ⟨fun hne2 => absurd he hne2, fun he2 M2 b hD hb => ?_⟩
    have o157 : M2 157 = M1 157 := hD.2.2.2.2.2 157 (by omega) (by omega) (by omega) (by omega)
    refine e_thrown.use ?_
    refine ⟨fun _ => ?_, fun h => absurd hD.2.2.2.1 h⟩
    refine ⟨fun _ => ?_, fun h => absurd rfl h⟩
    refine ⟨0, rfl, by omega, ?_⟩
    refine ⟨fun _ => ?_, fun h => absurd ?_ h⟩
    · exact hK _ _ _ _ _ _ _ _ _ (inv_do hI hT hR hH hT1 (r_set hR he) hF hD) (by omega) (by omega)
    · rw [o157, ho, hb]; exact lcmp_self
end LAW
