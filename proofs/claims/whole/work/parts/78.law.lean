/-! the law's cases: answers compared at once; quotients -/
theorem vfb64_nn {r : UInt64} (h : vfb64 r = true) : FP.Core.dIsNaN r = false := by
  cases hb : FP.Core.dIsNaN r with
  | false => rfl
  | true =>
    have h1 := (FP.Core.isNaN_bits r).mp hb
    have h2 : r &&& 0x7fffffffffffffff ≤ 0x7ff0000000000000 := of_decide_eq_true h
    rw [UInt64.le_iff_toNat_le, UInt64.toNat_and] at h2
    have h3 : r.toNat &&& (2 ^ 63 - 1) ≤ 9218868437227405312 := h2
    rw [Nat.and_two_pow_sub_one_eq_mod] at h3
    exact absurd h1 (Nat.not_lt.mpr h3)
theorem dcmp_0 {r : UInt64} (h : vfb64 r = true) (op : CmpOp) : Op.cmpValue (FP.dcmp r r) op = 0 := by
  have h1 : FP.dcmp r r = some .eq := FP.Core.dcmp_refl (vfb64_nn h)
  rw [h1]; rfl
theorem trip_none {G0 N : Nat → Int32} {m S t : Nat} (hm : m ≤ 6) (hS : S ≤ 16) (hp : packedI N S = none) : trN G0 N m S t 7 = N 7 := by
  have hnp : ∀ k, k < S → decide (N (63 + 8 * k + 3) = 1) = false := fun k hk => pick_none hp k hk
  have hon : ∀ mm k, k < S → isOnB N mm k = false := fun mm k hk => by rw [isOnB, hnp k hk, Bool.false_and]
  have hg : ∀ i, i < m → gN G0 N S m i = 0 := fun i hi => by
    rw [gN_at m hi, goesI, sOn, sm_zero S (fun k hk => by rw [hon _ k hk]; rfl)]; rfl
  rw [trN, tripsN]
  generalize gN G0 N S m = g at *
  have hleg : ∀ st k, k ≤ m → legN g st S N k = N := by
    intro st k
    induction k with
    | zero => intro _; rfl
    | succ k ih =>
      intro hk
      rw [legN, ih (by omega), hg k (by omega)]; rfl
  have hway : ∀ st, wayN g m S N st = N := by
    intro st
    induction st with
    | zero => rfl
    | succ st ih => rw [wayN, ih, hleg st m (Nat.le_refl _)]
  have hdel : ∀ k, k ≤ S → delN N k = N := by
    intro k
    induction k with
    | zero => intro _; rfl
    | succ k ih =>
      intro hk
      rw [delN, ih (by omega), hnp k (by omega)]; rfl
  have hsm : sm g m = 0 := sm_zero m hg
  rw [hway, hdel S (Nat.le_refl _), pay_eq, hsm, endN, upd_ne (by decide), countN_at (by decide), upd_ne (by decide), upd_at, Int32.zero_mul, Int32.sub_zero]
section MQ
variable {RO : List mE} {d sb : Nat} {ext : List sh} {M : mM} {Q : mQ} {m S t : Nat} {N G0 : Nat → Int32}
theorem m_tripBrings (h149 : M 149 = N) (h153 : M 153 = G0) (h : rowOk N m S t) (hQ : ∀ M', FrM M M' → Q (.inl (some (.int (trN G0 N m S t 7 - N 7)))) (gW sb ext) M' 0 0) : EvP RO (d + 9) 229 [.ref 145] (gW sb ext) M Q := by
  subst h149
  subst h153
  refine e_tripBrings h (fun hp => ?_) (fun hp => ?_)
  · have h9 := hQ (thr M 0) FrM.refl.thr
    rw [trip_none h.2.2.2.1 h.2.2.2.2.1 (by
      cases hx : packedI (M 149) S with
      | none => rfl
      | some a => rw [hx] at hp; cases hp), Int32.sub_self] at h9
    exact h9
  · exact hQ _ FrM.what.thr
theorem m_filled {v : Int32} (h149 : M 149 = N) (hS : S ≤ 16) (hm : m ≤ 6) (hN : N 4 = Int32.ofNat S) (hN3 : N 3 = Int32.ofNat m) (hQ : ∀ (b : UInt32) (M' : mM), M' 145 3 = (u_filled N S v).1 → FrM M M' → ((u_filled N S v).1 = 0 → b = (u_filled N S v).2) → vfb64 (FP.f2d b) = true → Q (.inl (some (.float b))) (gW sb ext) M' 0 0) : EvP RO (d + 5) 155 [.ref 145, .int v] (gW sb ext) M Q := by
  subst h149
  refine e_filled hS hm hN hN3 (fun h => ?_) (fun i hi hv => ?_)
  · rw [u_filled, h] at hQ
    exact hQ _ _ thr_3 FrM.refl.thr (fun h => absurd (show (1 : Int32) = 0 from h) (by decide)) (by decide +kernel)
  · rw [u_filled, inB_in (by omega) hN3 hi hv, cond_true, hv, clamp_nn (by omega)] at hQ
    exact hQ _ _ thr_3 FrM.refl.thr (fun _ => rfl) filN_ok
end MQ
section LAW
variable {hs : Nat → Int32} {d len sb i c s : Nat} {f : Nat → Int32} {ext : List sh} {M : mM} {Q : mQ} {v6 v7 v8 v9 : Value}
theorem law_gap (hI : Inv sb ext M) (hi : i + 6 ≤ len) (hlen : len ≤ 3072) (hK : Lcont (RO9 hs len f) (d + 30) Q ext i c s) : GoP (RO9 hs len f) (d + 30) 358 (lawL i v6 v7 v8 v9) [] (gW sb ext) M 846 c s Q := by
  obtain ⟨m, S, t, nx, cc, hT, hR, hw, hH⟩ := hI.parts
  have hm := hT.1.2.2.2.1
  have hS := hT.1.2.2.2.2.1
  have ht := hT.1.2.2.2.2.2
  refine wp_sound [2408] 90 _ _ _ _ _ _ _ ?_
  refine (c_gap hT hR.1 hR.2.1).use ?_
  refine (e_gap hS hm hT.1.2.1 hT.1.1).use ?_
  refine ⟨fun _ => ?_, fun h => absurd rfl h⟩
  exact hK _ _ _ _ _ _ _ _ _ (hI.fr (FrL.of FrQ.refl FrM.refl.thr)) (by omega) (by omega)
theorem law_errorCode (hI : Inv sb ext M) (hi : i + 6 ≤ len) (hlen : len ≤ 3072) (hK : Lcont (RO9 hs len f) (d + 30) Q ext i c s) : GoP (RO9 hs len f) (d + 30) 358 (lawL i v6 v7 v8 v9) [] (gW sb ext) M 380 c s Q := by
  obtain ⟨m, S, t, nx, cc, hT, hR, hw, hH⟩ := hI.parts
  have hm := hT.1.2.2.2.1
  have hS := hT.1.2.2.2.2.1
  have ht := hT.1.2.2.2.2.2
  refine wp_sound [2408] 90 _ _ _ _ _ _ _ ?_
  refine EvP.wp [] 60 rfl ?_
  refine (e_errorCode).use ?_
  refine ⟨fun _ => ?_, fun h => absurd hI.2.2.2.2.2.1.1 h⟩
  exact hK _ _ _ _ _ _ _ _ _ (hI.fr (FrL.of FrQ.refl FrM.refl.thr)) (by omega) (by omega)
theorem law_errorPosition (hI : Inv sb ext M) (hi : i + 6 ≤ len) (hlen : len ≤ 3072) (hK : Lcont (RO9 hs len f) (d + 30) Q ext i c s) : GoP (RO9 hs len f) (d + 30) 358 (lawL i v6 v7 v8 v9) [] (gW sb ext) M 393 c s Q := by
  obtain ⟨m, S, t, nx, cc, hT, hR, hw, hH⟩ := hI.parts
  have hm := hT.1.2.2.2.1
  have hS := hT.1.2.2.2.2.1
  have ht := hT.1.2.2.2.2.2
  refine wp_sound [2408] 90 _ _ _ _ _ _ _ ?_
  refine EvP.wp [] 60 rfl ?_
  refine (e_errorPosition).use ?_
  refine ⟨fun _ => ?_, fun h => absurd hI.2.2.2.2.2.1.2 h⟩
  exact hK _ _ _ _ _ _ _ _ _ (hI.fr (FrL.of FrQ.refl FrM.refl.thr)) (by omega) (by omega)
theorem law_tripBrings (hI : Inv sb ext M) (hi : i + 6 ≤ len) (hlen : len ≤ 3072) (hK : Lcont (RO9 hs len f) (d + 30) Q ext i c s) : GoP (RO9 hs len f) (d + 30) 358 (lawL i v6 v7 v8 v9) [] (gW sb ext) M 983 c s Q := by
  obtain ⟨m, S, t, nx, cc, hT, hR, hw, hH⟩ := hI.parts
  have hm := hT.1.2.2.2.1
  have hS := hT.1.2.2.2.2.1
  have ht := hT.1.2.2.2.2.2
  refine wp_sound [2408] 90 _ _ _ _ _ _ _ ?_
  refine c_tripBrings (N := M 149) (G0 := M 153) hT hR.1 hw (fun M1 hF => ?_)
  have e149 : M1 149 = M 149 := hF.1 149 (by omega) (by omega) (by omega) (by omega)
  have e153 : M1 153 = M 153 := hF.1 153 (by omega) (by omega) (by omega) (by omega)
  refine m_tripBrings e149 e153 hR.1.1 (fun M2 hFM => ?_)
  refine ⟨fun _ => ?_, fun h => absurd rfl h⟩
  exact hK _ _ _ _ _ _ _ _ _ (hI.fr (FrL.of hF hFM)) (by omega) (by omega)
theorem law_worthOfLoads (hI : Inv sb ext M) (hi : i + 6 ≤ len) (hlen : len ≤ 3072) (hK : Lcont (RO9 hs len f) (d + 30) Q ext i c s) : GoP (RO9 hs len f) (d + 30) 358 (lawL i v6 v7 v8 v9) [] (gW sb ext) M 1388 c s Q := by
  obtain ⟨m, S, t, nx, cc, hT, hR, hw, hH⟩ := hI.parts
  have hm := hT.1.2.2.2.1
  have hS := hT.1.2.2.2.2.1
  have ht := hT.1.2.2.2.2.2
  refine wp_sound [2408] 90 _ _ _ _ _ _ _ ?_
  refine (c_worthOfLoads hT hR.1).use ?_
  refine (e_worthOfLoads hS hm hT.1.2.1 hT.1.1).use ?_
  refine ⟨fun _ => ?_, fun h => ⟨fun h2 => absurd h2 h, fun _ => ⟨fun h2 => absurd h2 h, fun _ => ?_⟩⟩⟩
  · exact hK _ _ _ _ _ _ _ _ _ (hI.fr (FrL.of FrQ.refl FrM.refl.thr)) (by omega) (by omega)
  · exact hK _ _ _ _ _ _ _ _ _ (hI.fr (FrL.of FrQ.refl FrM.refl.thr)) (by omega) (by omega)
theorem law_filled (hI : Inv sb ext M) (hi : i + 6 ≤ len) (hlen : len ≤ 3072) (hK : Lcont (RO9 hs len f) (d + 30) Q ext i c s) : GoP (RO9 hs len f) (d + 30) 358 (lawL i v6 v7 v8 v9) [] (gW sb ext) M 1429 c s Q := by
  obtain ⟨m, S, t, nx, cc, hT, hR, hw, hH⟩ := hI.parts
  have hm := hT.1.2.2.2.1
  have hS := hT.1.2.2.2.2.1
  have ht := hT.1.2.2.2.2.2
  refine wp_sound [1435, 1449, 2408] 90 _ _ _ _ _ _ _ ?_
  refine go_ald (j := i + 1) rfl (i_add i 1) (by omega) (by omega) ?_
  refine wp_sound [1435, 1449, 2408] 90 _ _ _ _ _ _ _ ?_
  refine w_filled (N := M 149) hT hR.1 (fun M1 mc ms hF ho hmc hms => ?_)
  have e149 : M1 149 = M 149 := hF.1 149 (by omega) (by omega) (by omega) (by omega)
  refine go_ald (j := i + 1) rfl (i_add i 1) (by omega) (by omega) ?_
  refine wp_sound [1435, 1449, 2408] 90 _ _ _ _ _ _ _ ?_
  refine m_filled e149 hS hm hT.1.2.1 hT.1.1 (fun b M2 h3 hFM hb hnn => ?_)
  have o158 : M2 158 = M1 158 := hFM.1 158 (by omega) (by omega) (by omega) (by omega)
  have hfin := fun c' s' v6 v7 v8 v9 h1 h2 => hK sb ext M2 c' s' v6 v7 v8 v9 (hI.fr (FrL.of hF hFM)) h1 h2
  refine e_thrown.use ?_
  refine ⟨fun _ => ?_, fun h => absurd h3 h⟩
  refine ⟨fun h0 => ?_, fun h0 => ?_⟩
  · have heq : (M2 158 0).toUInt32 = b := by rw [o158, ho h0, hb h0]
    have hz := dcmp_0 hnn CmpOp.l
    rw [← heq] at hnn hz
    subst heq
    refine ⟨0, rfl, by omega, ?_⟩
    refine ⟨hnn, ?_⟩
    refine ⟨fun _ => ?_, fun h => absurd hz h⟩
    exact hfin _ _ _ _ _ _ (by omega) (by omega)
  · exact hfin _ _ _ _ _ _ (by omega) (by omega)
end LAW
