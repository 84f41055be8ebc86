/-! what the reference answers, in the same words -/
def FrM (M M' : mM) : Prop := (∀ q, q ≠ 145 → q ≠ 150 → q ≠ 153 → q ≠ 154 → M' q = M q) ∧ ∀ j, j ≠ 3 → M' 145 j = M 145 j
theorem FrM.refl {M : mM} : FrM M M := ⟨fun _ _ _ _ _ => rfl, fun _ _ => rfl⟩
theorem FrM.thr {M M' : mM} {w : Int32} (h : FrM M M') : FrM M (thr M' w) := ⟨fun q a b c e => by rw [thr_eq, upM_ne a]; exact h.1 q a b c e, fun j hj => by rw [thr_eq, upM_at, upd_ne hj]; exact h.2 j hj⟩
theorem FrM.what {M : mM} {m S : Nat} : FrM M (whatM M m S) := ⟨fun q a b c e => by rw [whatM, upM_ne c, asideM, upM_ne b], fun j hj => rfl⟩
theorem FrM.best {M : mM} {f : Nat → Int32} : FrM M (upM M 154 f) := ⟨fun q a b c e => upM_ne e, fun j hj => rfl⟩
theorem thr_3 {M : mM} {w : Int32} : thr M w 145 3 = w := by rw [thr_eq, upM_at, upd_at]
def mRQ (Q : mQ) (G : List sh) (M : mM) (u : Int32 × Int32) : Prop := ∀ (b : Int32) (M' : mM), M' 145 3 = u.1 → FrM M M' → (u.1 = 0 → b = u.2) → Q (.inl (some (.int b))) G M' 0 0
theorem mRQ_no {Q : mQ} {G : List sh} {M : mM} {k : Int32} (h : mRQ Q G M (k, 0)) : Q (.inl (some (.int 0))) G (thr M k) 0 0 := h 0 _ thr_3 FrM.refl.thr (fun _ => rfl)
theorem mRQ_yes {Q : mQ} {G : List sh} {M M1 : mM} {x y : Int32} (h : mRQ Q G M (0, x)) (hxy : y = x) (hF : FrM M M1) : Q (.inl (some (.int y))) G (thr M1 0) 0 0 := h y _ thr_3 hF.thr (fun _ => hxy)
section MQ
variable {RO : List mE} {d sb : Nat} {ext : List sh} {M : mM} {Q : mQ} {m S t : Nat} {N G0 : Nat → Int32}
theorem m_value {c : Nat} {v : Int32} (h149 : M 149 = N) (h : rowOk N m S t) (hc : M 145 7 = Int32.ofNat c) (hQ : mRQ Q (gW sb ext) M (u_value N S t (Int32.ofNat c) v)) : EvP RO (d + 3) 234 [.ref 145, .int v] (gW sb ext) M Q := by
  subst h149
  rw [u_value] at hQ
  refine e_value h hc (fun e => ?_) (fun e => ?_) (fun e => ?_) (fun e => ?_) (fun e => ?_) (fun e => ?_) (fun e => ?_) (fun e => ?_) (fun e0 e1 e2 e3 e4 e5 e6 e7 e8 e9 e10 => ?_)
  · subst e; exact mRQ_yes hQ h.1.symm FrM.refl
  · subst e; exact mRQ_yes hQ h.2.1.symm FrM.refl
  · rcases e with e | e | e | e <;> subst e <;> exact mRQ_yes hQ rfl FrM.refl
  · subst e; exact mRQ_yes hQ h.2.2.1.symm FrM.refl
  · subst e; exact mRQ_yes hQ rfl FrM.refl
  · subst e; exact mRQ_yes hQ rfl FrM.refl
  · subst e; exact mRQ_yes hQ rfl FrM.refl
  · subst e; exact mRQ_yes hQ rfl FrM.refl
  · rw [if_neg e0, if_neg e1, if_neg e2, if_neg e3, if_neg e4, if_neg e5, if_neg e6, if_neg e7, if_neg e8, if_neg e9, if_neg e10] at hQ
    exact mRQ_no hQ
theorem m_setting {v : Int32} (h149 : M 149 = N) (hQ : mRQ Q (gW sb ext) M (u_setting N v)) : EvP RO (d + 2) 216 [.ref 145, .int v] (gW sb ext) M Q := by
  subst h149
  rw [u_setting] at hQ
  refine e_setting (fun h => ?_) (fun i hi hv => ?_)
  · rw [h] at hQ; exact mRQ_no hQ
  · subst hv
    rw [show inB (Int32.ofNat i) 0 2 = true from inB_on (n := 2) (by omega) hi rfl, cond_true, clamp_nn (by omega)] at hQ
    exact mRQ_yes hQ rfl FrM.refl
theorem m_count {v : Int32} (h149 : M 149 = N) (hQ : mRQ Q (gW sb ext) M (u_count N v)) : EvP RO (d + 2) 143 [.ref 145, .int v] (gW sb ext) M Q := by
  subst h149
  rw [u_count] at hQ
  refine e_count (fun h => ?_) (fun i hi hv => ?_)
  · rw [h] at hQ; exact mRQ_no hQ
  · subst hv
    rw [show inB (Int32.ofNat i) 0 6 = true from inB_on (n := 6) (by omega) hi rfl, cond_true, clamp_nn (by omega)] at hQ
    exact mRQ_yes hQ rfl FrM.refl
theorem m_nameByte {v w : Int32} (h149 : M 149 = N) (hm : m ≤ 6) (hN : N 3 = Int32.ofNat m) (hQ : mRQ Q (gW sb ext) M (u_nameByte N v w)) : EvP RO (d + 3) 187 [.ref 145, .int v, .int w] (gW sb ext) M Q := by
  subst h149
  rw [u_nameByte] at hQ
  refine e_nameByte hm hN (fun h => ?_) (fun i hi hv h => ?_) (fun i j hi hv hj hw => ?_)
  · rw [h] at hQ; exact mRQ_no hQ
  · rw [inB_in (by omega) hN hi hv, cond_true, hv, clamp_nn (by omega), letB, h] at hQ
    exact mRQ_yes hQ rfl FrM.refl
  · have hle := lettN_le (N := M 149) (i := i)
    rw [inB_in (by omega) hN hi hv, cond_true, hv, clamp_nn (by omega), letB, inB_in (by omega) rfl hj hw, cond_true, hw, clamp_nn (by omega)] at hQ
    exact mRQ_yes hQ rfl FrM.refl
theorem m_sack {v w : Int32} (h149 : M 149 = N) (hS : S ≤ 16) (hN : N 4 = Int32.ofNat S) (hQ : mRQ Q (gW sb ext) M (u_sack N v w)) : EvP RO (d + 3) 212 [.ref 145, .int v, .int w] (gW sb ext) M Q := by
  subst h149
  rw [u_sack] at hQ
  refine e_sack hS hN (fun h => ?_) (fun i hi hv h => ?_) (fun i j hi hv hj hw => ?_)
  · rw [h] at hQ; exact mRQ_no hQ
  · rw [inB_in (by omega) hN hi hv, cond_true, h] at hQ
    exact mRQ_no hQ
  · rw [inB_in (by omega) hN hi hv, cond_true, show inB w 0 7 = true from inB_on (n := 7) (by omega) hj hw, hv, hw, clamp_nn (by omega), clamp_nn (by omega)] at hQ
    exact mRQ_yes hQ rfl FrM.refl
theorem m_stage {v w : Int32} (h149 : M 149 = N) (ht : t ≤ 8) (hN : N 5 = Int32.ofNat t) (hQ : mRQ Q (gW sb ext) M (u_stage N v w)) : EvP RO (d + 3) 219 [.ref 145, .int v, .int w] (gW sb ext) M Q := by
  subst h149
  rw [u_stage] at hQ
  refine e_stage ht hN (fun h => ?_) (fun i hi hv h => ?_) (fun i j hi hv hj hw => ?_)
  · rw [h] at hQ; exact mRQ_no hQ
  · rw [inB_in (by omega) hN hi hv, cond_true, h] at hQ
    exact mRQ_no hQ
  · rw [inB_in (by omega) hN hi hv, cond_true, show inB w 0 1 = true from inB_on (n := 1) (by omega) hj hw, hv, hw, clamp_nn (by omega), clamp_nn (by omega)] at hQ
    exact mRQ_yes hQ rfl FrM.refl
theorem m_whyNot {v w : Int32} (h149 : M 149 = N) (hS : S ≤ 16) (hm : m ≤ 6) (hN : N 4 = Int32.ofNat S) (hN3 : N 3 = Int32.ofNat m) (hQ : mRQ Q (gW sb ext) M (u_whyNot N S v w)) : EvP RO (d + 6) 240 [.ref 145, .int v, .int w] (gW sb ext) M Q := by
  subst h149
  rw [u_whyNot] at hQ
  refine e_whyNot hS hm hN hN3 (fun h => ?_) (fun k i hk hv hi hw => ?_)
  · rw [show (inB v 0 (M 149 4 - 1) && inB w 0 (M 149 3 - 1)) = false by
      rcases h with h | h
      · rw [h, Bool.false_and]
      · rw [h, Bool.and_false]] at hQ
    exact mRQ_no hQ
  · rw [inB_in (by omega) hN hk hv, inB_in (by omega) hN3 hi hw, hv, hw, clamp_nn (by omega), clamp_nn (by omega)] at hQ
    exact mRQ_yes hQ rfl FrM.refl
theorem m_whyNoTrip {v : Int32} (h149 : M 149 = N) (hS : S ≤ 16) (hm : m ≤ 6) (hN : N 4 = Int32.ofNat S) (hN3 : N 3 = Int32.ofNat m) (hQ : mRQ Q (gW sb ext) M (u_whyNoTrip N m S v)) : EvP RO (d + 8) 239 [.ref 145, .int v] (gW sb ext) M Q := by
  subst h149
  rw [u_whyNoTrip] at hQ
  refine e_whyNoTrip hS hm hN hN3 (fun h => ?_) (fun h => ?_) (fun h => ?_)
  · rw [h] at hQ; exact mRQ_no hQ
  · subst h; exact mRQ_yes hQ rfl FrM.refl
  · subst h; exact mRQ_yes hQ rfl FrM.refl
theorem m_bestSack {v : Int32} (h149 : M 149 = N) (hS : S ≤ 16) (hm : m ≤ 6) (hN : N 4 = Int32.ofNat S) (hN3 : N 3 = Int32.ofNat m) (hQ : mRQ Q (gW sb ext) M (u_bestSack N S v)) : EvP RO (d + 7) 139 [.ref 145, .int v] (gW sb ext) M Q := by
  subst h149
  rw [u_bestSack] at hQ
  refine e_bestSack hS hm hN hN3 (fun h => ?_) (fun i hi hv => ?_)
  · rw [h] at hQ; exact mRQ_no hQ
  · rw [inB_in (by omega) hN3 hi hv, cond_true, hv, clamp_nn (by omega)] at hQ
    exact mRQ_yes hQ rfl FrM.refl
theorem m_lighter {v : Int32} (h149 : M 149 = N) (hS : S ≤ 16) (hm : m ≤ 6) (hN : N 4 = Int32.ofNat S) (hN3 : N 3 = Int32.ofNat m) (hQ : mRQ Q (gW sb ext) M (u_lighter N S v)) : EvP RO (d + 5) 179 [.ref 145, .int v] (gW sb ext) M Q := by
  subst h149
  rw [u_lighter] at hQ
  refine e_lighter hS hm hN hN3 (fun h => ?_) (fun i hi hv => ?_)
  · rw [h] at hQ; exact mRQ_no hQ
  · rw [inB_in (by omega) hN3 hi hv, cond_true, hv] at hQ
    exact mRQ_yes hQ rfl FrM.refl
theorem m_freshIn {v : Int32} (h149 : M 149 = N) (hm : m ≤ 6) (hN3 : N 3 = Int32.ofNat m) (hQ : mRQ Q (gW sb ext) M (u_freshIn N v)) : EvP RO (d + 3) 159 [.ref 145, .int v] (gW sb ext) M Q := by
  subst h149
  rw [u_freshIn] at hQ
  refine e_freshIn hm hN3 (fun h => ?_) (fun i hi hv => ?_)
  · rw [h] at hQ; exact mRQ_no hQ
  · rw [inB_in (by omega) hN3 hi hv, cond_true, hv, clamp_nn (by omega)] at hQ
    exact mRQ_yes hQ rfl FrM.refl
theorem m_deepest {v : Int32} (h149 : M 149 = N) (hS : S ≤ 16) (hm : m ≤ 6) (hN : N 4 = Int32.ofNat S) (hN3 : N 3 = Int32.ofNat m) (hQ : mRQ Q (gW sb ext) M (u_deepest N S v)) : EvP RO (d + 5) 145 [.ref 145, .int v] (gW sb ext) M Q := by
  subst h149
  rw [u_deepest] at hQ
  refine e_deepest hS hm hN hN3 (fun h => ?_) (fun i hi hv => ?_)
  · rw [h] at hQ; exact mRQ_no hQ
  · rw [inB_in (by omega) hN3 hi hv, cond_true, hv, clamp_nn (by omega)] at hQ
    exact mRQ_yes hQ rfl FrM.refl
theorem m_tiredBy {v : Int32} (h149 : M 149 = N) (h153 : M 153 = G0) (h : rowOk N m S t) (hQ : mRQ Q (gW sb ext) M (u_tiredBy N (trN G0 N m S t) v)) : EvP RO (d + 9) 225 [.ref 145, .int v] (gW sb ext) M Q := by
  subst h149
  subst h153
  have hm := h.2.2.2.1
  rw [u_tiredBy] at hQ
  refine e_tiredBy h (fun h => ?_) (fun i hi hv => ?_)
  · rw [h] at hQ; exact mRQ_no hQ
  · rw [inB_in (by omega) h.1 hi hv, cond_true, hv, clamp_nn (by omega)] at hQ
    exact mRQ_yes hQ rfl FrM.what
theorem m_fate {v : Int32} (h149 : M 149 = N) (h153 : M 153 = G0) (h : rowOk N m S t) (hQ : mRQ Q (gW sb ext) M (u_fate N (trN G0 N m S t) v)) : EvP RO (d + 9) 151 [.ref 145, .int v] (gW sb ext) M Q := by
  subst h149
  subst h153
  have hS := h.2.2.2.2.1
  rw [u_fate] at hQ
  refine e_fate h (fun h => ?_) (fun i hi hv h2 => ?_) (fun i hi hv h2 => ?_)
  · rw [h] at hQ; exact mRQ_no hQ
  · rw [inB_in (by omega) h.2.1 hi hv, cond_true, hv, clamp_nn (by omega), if_neg h2] at hQ
    exact mRQ_yes hQ rfl FrM.refl
  · rw [inB_in (by omega) h.2.1 hi hv, cond_true, hv, clamp_nn (by omega), if_pos h2] at hQ
    refine mRQ_yes hQ ?_ FrM.what
    show (bif decide (trN (M 153) (M 149) m S t (63 + 8 * i + 3) = 3) then (3 : Int32) else bif decide (trN (M 153) (M 149) m S t (63 + 8 * i + 2) < M 149 (63 + 8 * i + 2)) then 2 else 1) = _
    by_cases h3 : trN (M 153) (M 149) m S t (63 + 8 * i + 3) = 3
    · rw [decide_eq_true h3, if_pos h3]; rfl
    · rw [decide_eq_false h3, if_neg h3, cond_false]
      by_cases h4 : trN (M 153) (M 149) m S t (63 + 8 * i + 2) < M 149 (63 + 8 * i + 2)
      · rw [decide_eq_true h4, if_pos h4]; rfl
      · rw [decide_eq_false h4, if_neg h4]; rfl
theorem m_bestWorth {v : Int32} (h149 : M 149 = N) (hS : S ≤ 16) (hm : m ≤ 6) (hN : N 4 = Int32.ofNat S) (hN3 : N 3 = Int32.ofNat m) (hW : weightOk N S) (hL : loadsOk N m S) (hQ : mRQ Q (gW sb ext) M (u_bestWorth N S v)) : EvP RO (d + 5) 140 [.ref 145, .int v] (gW sb ext) M Q := by
  subst h149
  rw [u_bestWorth] at hQ
  refine e_bestWorth hS hm hN hN3 hW (fun h => ?_) (fun i hi hv => ?_)
  · rw [h] at hQ; exact mRQ_no hQ
  · obtain ⟨a, c, l1, l2, l3, l4⟩ := hL i hi
    have hr : bearN (M 149) i - loadN (M 149) (Int32.ofNat i) S = Int32.ofNat (c - a) := by rw [l1, l2, i_sub l3]
    refine ⟨c - a, by omega, hr, ?_⟩
    rw [inB_in (by omega) hN3 hi hv, cond_true, hv, roomN, clamp_nn (by omega), hr, clamp_nn (by omega)] at hQ
    exact mRQ_yes hQ (dpN_congr (fun j hj => by rw [zeroF, if_pos (by omega)]) S _ (Nat.le_refl _)) FrM.best
theorem m_mule {v w : Int32} (h149 : M 149 = N) (hS : S ≤ 16) (hm : m ≤ 6) (hN : N 4 = Int32.ofNat S) (hN3 : N 3 = Int32.ofNat m) (hQ : mRQ Q (gW sb ext) M (u_mule N S v w)) : EvP RO (d + 6) 185 [.ref 145, .int v, .int w] (gW sb ext) M Q := by
  subst h149
  rw [u_mule] at hQ
  refine e_mule hS hm hN hN3 (fun h => ?_) (fun i hi hv hw => ?_) (fun i hi hv hw => ?_) (fun i hi hv hw => ?_) (fun i hi hv hw => ?_) (fun i hi hv hw => ?_) (fun i hi hv hw => ?_) (fun i hi hv hw => ?_) (fun i hi hv hw => ?_) (fun i hi hv hw => ?_) (fun i hi hv hw => ?_) (fun i hi hv n0 n1 n2 n3 n4 n5 n6 n7 n8 n9 => ?_)
  · rw [h] at hQ; exact mRQ_no hQ
  · subst hw
    rw [inB_in (by omega) hN3 hi hv, cond_true, show inB 0 0 9 = true from by decide, cond_true, muleV, if_pos rfl] at hQ
    exact mRQ_yes hQ (by rw [hv, clamp_nn (by omega)]) FrM.refl
  · subst hw
    rw [inB_in (by omega) hN3 hi hv, cond_true, show inB 1 0 9 = true from by decide, cond_true, muleV, if_neg (by decide), if_pos rfl] at hQ
    exact mRQ_yes hQ (by rw [hv, clamp_nn (by omega)]) FrM.refl
  · subst hw
    rw [inB_in (by omega) hN3 hi hv, cond_true, show inB 2 0 9 = true from by decide, cond_true, muleV, if_neg (by decide), if_neg (by decide), if_pos rfl] at hQ
    exact mRQ_yes hQ (by rw [hv, clamp_nn (by omega)]) FrM.refl
  · subst hw
    rw [inB_in (by omega) hN3 hi hv, cond_true, show inB 3 0 9 = true from by decide, cond_true, muleV, if_neg (by decide), if_neg (by decide), if_neg (by decide), if_pos rfl] at hQ
    exact mRQ_yes hQ (by rw [hv]) FrM.refl
  · subst hw
    rw [inB_in (by omega) hN3 hi hv, cond_true, show inB 4 0 9 = true from by decide, cond_true, muleV, if_neg (by decide), if_neg (by decide), if_neg (by decide), if_neg (by decide), if_pos rfl] at hQ
    exact mRQ_yes hQ (by rw [hv]) FrM.refl
  · subst hw
    rw [inB_in (by omega) hN3 hi hv, cond_true, show inB 5 0 9 = true from by decide, cond_true, muleV, if_neg (by decide), if_neg (by decide), if_neg (by decide), if_neg (by decide), if_neg (by decide), if_pos rfl] at hQ
    exact mRQ_yes hQ (by rw [hv]) FrM.refl
  · subst hw
    rw [inB_in (by omega) hN3 hi hv, cond_true, show inB 6 0 9 = true from by decide, cond_true, muleV, if_neg (by decide), if_neg (by decide), if_neg (by decide), if_neg (by decide), if_neg (by decide), if_neg (by decide), if_pos rfl] at hQ
    exact mRQ_yes hQ (by rw [hv]) FrM.refl
  · subst hw
    rw [inB_in (by omega) hN3 hi hv, cond_true, show inB 7 0 9 = true from by decide, cond_true, muleV, if_neg (by decide), if_neg (by decide), if_neg (by decide), if_neg (by decide), if_neg (by decide), if_neg (by decide), if_neg (by decide), if_pos rfl] at hQ
    exact mRQ_yes hQ (by rw [hv]) FrM.refl
  · subst hw
    rw [inB_in (by omega) hN3 hi hv, cond_true, show inB 8 0 9 = true from by decide, cond_true, muleV, if_neg (by decide), if_neg (by decide), if_neg (by decide), if_neg (by decide), if_neg (by decide), if_neg (by decide), if_neg (by decide), if_neg (by decide), if_pos rfl] at hQ
    exact mRQ_yes hQ (by rw [hv]) FrM.refl
  · subst hw
    rw [inB_in (by omega) hN3 hi hv, cond_true, show inB 9 0 9 = true from by decide, cond_true, muleV, if_neg (by decide), if_neg (by decide), if_neg (by decide), if_neg (by decide), if_neg (by decide), if_neg (by decide), if_neg (by decide), if_neg (by decide), if_neg (by decide)] at hQ
    exact mRQ_yes hQ (by rw [hv, clamp_nn (by omega)]) FrM.refl
  · rw [inB_in (by omega) hN3 hi hv, cond_true, show inB w 0 9 = false from by
      cases hb : inB w 0 9 with
      | false => rfl
      | true =>
        obtain ⟨j, hj, hw⟩ := inB_c (n := 9) (by omega) hb
        rcases (show j = 0 ∨ j = 1 ∨ j = 2 ∨ j = 3 ∨ j = 4 ∨ j = 5 ∨ j = 6 ∨ j = 7 ∨ j = 8 ∨ j = 9 by omega) with rfl | rfl | rfl | rfl | rfl | rfl | rfl | rfl | rfl | rfl
        · exact absurd hw n0
        · exact absurd hw n1
        · exact absurd hw n2
        · exact absurd hw n3
        · exact absurd hw n4
        · exact absurd hw n5
        · exact absurd hw n6
        · exact absurd hw n7
        · exact absurd hw n8
        · exact absurd hw n9] at hQ
    exact mRQ_no hQ
end MQ
