/-! changes: the reference's answers; what holds behind them -/
def FrD (M : mM) (c : Nat) (N' : Nat → Int32) (M' : mM) : Prop := M' 149 = N' ∧ M' 151 = remO (M 151) (M 149) c ∧ M' 145 7 = Int32.ofNat (remC c + 1) ∧ M' 145 3 = 0 ∧ (∀ j, j ≠ 3 → j ≠ 7 → M' 145 j = M 145 j) ∧ ∀ q, q ≠ 145 → q ≠ 149 → q ≠ 151 → q ≠ 153 → M' q = M q
theorem frd_do {M : mM} {c : Nat} {N' : Nat → Int32} : FrD M c N' (doM M c N') := by
  refine ⟨rfl, rfl, rfl, rfl, fun j h3 h7 => ?_, fun q h1 h2 h3 h4 => ?_⟩
  · rw [doM, thr_eq, upM_at, upd_ne h3, upM_ne (by decide), remM, upM_at, upd_ne h7]
  · rw [doM, thr_eq, upM_ne h1, upM_ne h2, remM, upM_ne h1, upM_ne h3]
theorem frd_trip {M : mM} {c : Nat} {N' F : Nat → Int32} : FrD M c N' (thr (upM (upM (remM M c) 153 F) 149 N') 0) := by
  refine ⟨rfl, rfl, rfl, rfl, fun j h3 h7 => ?_, fun q h1 h2 h3 h4 => ?_⟩
  · rw [thr_eq, upM_at, upd_ne h3, upM_ne (by decide), upM_ne (by decide), remM, upM_at, upd_ne h7]
  · rw [thr_eq, upM_ne h1, upM_ne h2, upM_ne h4, remM, upM_ne h1, upM_ne h3]
def mCh (Q : mQ) (G : List sh) (M : mM) (c : Nat) (u : Int32 × Int32) (N' : Nat → Int32) : Prop := (u.1 ≠ 0 → Q (.inl (some (.int 0))) G (thr M u.1) 0 0) ∧ (u.1 = 0 → ∀ (M' : mM) (b : Int32), FrD M c N' M' → b = u.2 → Q (.inl (some (.int b))) G M' 0 0)
theorem mCh_no {Q : mQ} {G : List sh} {M : mM} {c : Nat} {k x : Int32} {N' : Nat → Int32} (h : mCh Q G M c (k, x) N') (hk : k ≠ 0) : Q (.inl (some (.int 0))) G (thr M k) 0 0 := h.1 hk
theorem mCh_yes {Q : mQ} {G : List sh} {M : mM} {c : Nat} {x y : Int32} {N' N2 : Nat → Int32} (h : mCh Q G M c (0, x) N') (hN : N2 = N') (hy : y = x) : Q (.inl (some (.int y))) G (doM M c N2) 0 0 := by
  subst hN
  exact h.2 rfl _ _ frd_do hy
section MCH
variable {RO : List mE} {d sb : Nat} {ext : List sh} {M : mM} {Q : mQ} {m S t c : Nat} {N G0 : Nat → Int32}
theorem m_pack {v w x : Int32} (h149 : M 149 = N) (h : rowOk N m S t) (hc : c ≤ 10) (hcN : M 145 7 = Int32.ofNat c) (hQ : mCh Q (gW sb ext) M c (u_pack N S v w x) (packN N v.toNatClampNeg w x)) : EvP RO (d + 6) 190 [.ref 145, .int v, .int w, .int x] (gW sb ext) M Q := by
  subst h149
  have hm := h.2.2.2.1
  have hS := h.2.2.2.2.1
  rw [u_pack] at hQ
  refine e_pack h hc hcN (fun e => ?_) (fun k i hk hv hi hw e => ?_) (fun k i hk hv hi hw e e2 => ?_) (fun k i hk hv hi hw e e2 => ?_)
  · rw [show (inB v 0 (M 149 4 - 1) && inB w 0 (M 149 3 - 1)) = false by
      rcases e with e | e
      · rw [e, Bool.false_and]
      · rw [e, Bool.and_false]] at hQ
    exact mCh_no hQ (by decide)
  · rw [inB_in (by omega) h.2.1 hk hv, inB_in (by omega) h.1 hi hw, e] at hQ
    exact mCh_no hQ (by decide)
  · rw [inB_in (by omega) h.2.1 hk hv, inB_in (by omega) h.1 hi hw, e, hv, hw, clamp_nn (by omega), clamp_nn (by omega)] at hQ
    rw [if_neg e2] at hQ
    exact mCh_no hQ (by decide)
  · rw [inB_in (by omega) h.2.1 hk hv, inB_in (by omega) h.1 hi hw, e, hv, hw, clamp_nn (by omega), clamp_nn (by omega)] at hQ
    rw [if_pos e2] at hQ
    subst hw
    exact mCh_yes hQ rfl rfl
theorem m_unpack {v : Int32} (h149 : M 149 = N) (h : rowOk N m S t) (hc : c ≤ 10) (hcN : M 145 7 = Int32.ofNat c) (hQ : mCh Q (gW sb ext) M c (u_unpack N S v) (leaveN N v.toNatClampNeg 0)) : EvP RO (d + 5) 233 [.ref 145, .int v] (gW sb ext) M Q := by
  subst h149
  have hS := h.2.2.2.2.1
  rw [u_unpack] at hQ
  refine e_unpack h hc hcN (fun e => ?_) (fun k hk hv e => ?_) (fun k hk hv e => ?_)
  · rw [e] at hQ; exact mCh_no hQ (by decide)
  · rw [inB_in (by omega) h.2.1 hk hv, cond_true, hv, clamp_nn (by omega), if_neg e] at hQ
    exact mCh_no hQ (by decide)
  · rw [inB_in (by omega) h.2.1 hk hv, cond_true, hv, clamp_nn (by omega), if_pos e] at hQ
    exact mCh_yes hQ rfl rfl
theorem m_shift {v : Int32} (h149 : M 149 = N) (h : rowOk N m S t) (hc : c ≤ 10) (hcN : M 145 7 = Int32.ofNat c) (hQ : mCh Q (gW sb ext) M c (u_shift N S v) (shN N v.toNatClampNeg)) : EvP RO (d + 5) 218 [.ref 145, .int v] (gW sb ext) M Q := by
  subst h149
  have hS := h.2.2.2.2.1
  rw [u_shift] at hQ
  refine e_shift h hc hcN (fun e => ?_) (fun k hk hv e => ?_) (fun k N' hk hv e hN' => ?_)
  · rw [e] at hQ; exact mCh_no hQ (by decide)
  · rw [inB_in (by omega) h.2.1 hk hv, cond_true, hv, clamp_nn (by omega), if_neg e] at hQ
    exact mCh_no hQ (by decide)
  · rw [inB_in (by omega) h.2.1 hk hv, cond_true, hv, clamp_nn (by omega), if_pos e] at hQ
    have hN2 : N' = shN (M 149) k := hN'
    rw [hN2]
    exact mCh_yes hQ rfl rfl
theorem m_fill {v : Int32} (h149 : M 149 = N) (h : rowOk N m S t) (hc : c ≤ 10) (hcN : M 145 7 = Int32.ofNat c) (hQ : mCh Q (gW sb ext) M c (u_fill N S v) (fillN v.toNatClampNeg S 16 N)) : EvP RO (d + 7) 154 [.ref 145, .int v] (gW sb ext) M Q := by
  subst h149
  have hm := h.2.2.2.1
  rw [u_fill] at hQ
  refine e_fill h hc hcN (fun e => ?_) (fun k hk hv => ?_)
  · rw [e] at hQ; exact mCh_no hQ (by decide)
  · rw [inB_in (by omega) h.1 hk hv, cond_true, hv, clamp_nn (by omega)] at hQ
    exact mCh_yes hQ rfl rfl
theorem m_trip {D : Nat} (h149 : M 149 = N) (h153 : M 153 = G0) (h : rowOk N m S t) (hc : c ≤ 10) (hcN : M 145 7 = Int32.ofNat c) (hD : N 6 = Int32.ofNat D) (hD9 : D ≤ 9999) (hQ : mCh Q (gW sb ext) M c (u_trip N (trN G0 N m S t) m S) (trN G0 N m S t)) : EvP RO (d + 9) 228 [.ref 145] (gW sb ext) M Q := by
  subst h149
  subst h153
  rw [u_trip] at hQ
  refine e_trip h hc hcN hD hD9 (fun e => ?_) (fun e1 e2 => ?_)
  · by_cases hw : whyN (M 149) m S = 0
    · rw [if_pos hw, if_pos (by
        rcases e with e | e
        · exact absurd hw e
        · rw [hD, e]; rfl)] at hQ
      exact mCh_no hQ (by decide)
    · rw [if_neg hw] at hQ
      exact mCh_no hQ (by decide)
  · rw [if_pos e1, if_neg (fun e => by
      rw [hD] at e
      have := i_inj (by omega) (by omega) (e.trans (show (9999 : Int32) = Int32.ofNat 9999 from rfl))
      omega)] at hQ
    exact hQ.2 rfl _ _ frd_trip rfl
theorem m_rest {D : Nat} {v : Int32} (h149 : M 149 = N) (h : rowOk N m S t) (hc : c ≤ 10) (hcN : M 145 7 = Int32.ofNat c) (hD : N 6 = Int32.ofNat D) (hD9 : D ≤ 9999) (hQ : mCh Q (gW sb ext) M c (u_rest N m v) (restN m N v.toNatClampNeg)) : EvP RO (d + 4) 207 [.ref 145, .int v] (gW sb ext) M Q := by
  subst h149
  rw [u_rest] at hQ
  have hin : ∀ n, 1 ≤ n → n ≤ 99 → inB (Int32.ofNat n) 1 99 = true := fun n h1 h2 => inB_mid (by
    rw [show (1 : Int32) = Int32.ofNat 1 from rfl, i_lt (by omega) (by omega)]; omega) (by
    rw [show (99 : Int32) = Int32.ofNat 99 from rfl, i_lt (by omega) (by omega)]; omega)
  refine e_rest h hc hcN hD hD9 (fun e => ?_) (fun n h1 h2 hv e => ?_) (fun n h1 h2 hv e => ?_)
  · rw [e] at hQ; exact mCh_no hQ (by decide)
  · rw [hv, hin n h1 h2, cond_true, hD, i_add, if_pos (by rw [show (9999 : Int32) = Int32.ofNat 9999 from rfl, i_lt (by omega) (by omega)]; exact e)] at hQ
    exact mCh_no hQ (by decide)
  · rw [hv, hin n h1 h2, cond_true, hD, i_add, if_neg (by rw [show (9999 : Int32) = Int32.ofNat 9999 from rfl, i_lt (by omega) (by omega)]; omega), clamp_nn (by omega)] at hQ
    exact mCh_yes hQ rfl rfl
theorem m_addSack {kd w v : Int32} (h149 : M 149 = N) (h : rowOk N m S t) (hc : c ≤ 10) (hcN : M 145 7 = Int32.ofNat c) (hQ : mCh Q (gW sb ext) M c (u_addSack S kd w v) (bringsN N S kd w v)) : EvP RO (d + 3) 133 [.ref 145, .int kd, .int w, .int v] (gW sb ext) M Q := by
  subst h149
  rw [u_addSack] at hQ
  refine e_addSack h hc hcN (fun e => ?_) (fun h1 h2 h3 e => ?_) (fun h1 h2 h3 e => ?_)
  · rw [show (inB kd 0 3 && (inB w 1 99 && inB v 0 999)) = false by
      rcases e with e | e | e
      · rw [e, Bool.false_and]
      · rw [e, Bool.false_and, Bool.and_false]
      · rw [e, Bool.and_false, Bool.and_false]] at hQ
    exact mCh_no hQ (by decide)
  · rw [h1, h2, h3, if_pos e] at hQ
    exact mCh_no hQ (by decide)
  · rw [h1, h2, h3, if_neg (by omega)] at hQ
    exact mCh_yes hQ rfl rfl
theorem m_addStage {kd n : Int32} (h149 : M 149 = N) (h147 : M 147 0 = 99 ∧ M 147 1 = 9 ∧ M 147 2 = 24) (h : rowOk N m S t) (hc : c ≤ 10) (hcN : M 145 7 = Int32.ofNat c) (hQ : mCh Q (gW sb ext) M c (u_addStage t kd n) (leadsN N t kd n)) : EvP RO (d + 3) 134 [.ref 145, .int kd, .int n] (gW sb ext) M Q := by
  subst h149
  have hmo : ∀ k, k < 3 → mostS (Int32.ofNat k) = M 147 k := fun k hk => by
    rcases (show k = 0 ∨ k = 1 ∨ k = 2 by omega) with rfl | rfl | rfl
    · exact h147.1.symm
    · exact h147.2.1.symm
    · exact h147.2.2.symm
  rw [u_addStage] at hQ
  refine e_addStage h hc hcN (fun e => ?_) (fun k hk hv e => ?_) (fun k hk hv e e2 => ?_) (fun k hk hv e e2 => ?_)
  · rw [e] at hQ; exact mCh_no hQ (by decide)
  · rw [hv, show inB (Int32.ofNat k) 0 2 = true from inB_on (n := 2) (by omega) hk rfl, hmo k hk, e] at hQ
    exact mCh_no hQ (by decide)
  · rw [hv, show inB (Int32.ofNat k) 0 2 = true from inB_on (n := 2) (by omega) hk rfl, hmo k hk, e, if_pos e2] at hQ
    exact mCh_no hQ (by decide)
  · rw [hv, show inB (Int32.ofNat k) 0 2 = true from inB_on (n := 2) (by omega) hk rfl, hmo k hk, e, if_neg (by omega)] at hQ
    subst hv
    exact mCh_yes hQ rfl rfl
theorem m_dropStage {v : Int32} (h149 : M 149 = N) (h : rowOk N m S t) (hc : c ≤ 10) (hcN : M 145 7 = Int32.ofNat c) (hQ : mCh Q (gW sb ext) M c (u_drop N t v) (dropF (upd N 5 (Int32.ofNat (t - 1))) (191 + 2 * v.toNatClampNeg) (191 + 2 * (t - 1)))) : EvP RO (d + 3) 147 [.ref 145, .int v] (gW sb ext) M Q := by
  subst h149
  have ht := h.2.2.2.2.2.1
  rw [u_drop] at hQ
  refine e_dropStage h hc hcN (fun e => ?_) (fun k hk hv => ?_)
  · rw [e] at hQ; exact mCh_no hQ (by decide)
  · rw [inB_in (by omega) h.2.2.1 hk hv, cond_true, hv, clamp_nn (by omega)] at hQ
    exact mCh_yes hQ rfl rfl
theorem m_set {w v : Int32} (h149 : M 149 = N) (h146 : M 146 0 = 99 ∧ M 146 1 = 50 ∧ M 146 2 = 50) (h : rowOk N m S t) (hc : c ≤ 10) (hcN : M 145 7 = Int32.ofNat c) (hQ : mCh Q (gW sb ext) M c (u_set N w v) (upd N w.toNatClampNeg v)) : EvP RO (d + 2) 215 [.ref 145, .int w, .int v] (gW sb ext) M Q := by
  subst h149
  have hmo : ∀ k, k < 3 → mostT (Int32.ofNat k) = M 146 k := fun k hk => by
    rcases (show k = 0 ∨ k = 1 ∨ k = 2 by omega) with rfl | rfl | rfl
    · exact h146.1.symm
    · exact h146.2.1.symm
    · exact h146.2.2.symm
  rw [u_set] at hQ
  refine e_set h hc hcN (fun e => ?_) (fun k hk hv e => ?_) (fun k hk hv e => ?_)
  · rw [e] at hQ; exact mCh_no hQ (by decide)
  · rw [hv, show inB (Int32.ofNat k) 0 2 = true from inB_on (n := 2) (by omega) hk rfl, hmo k hk, e] at hQ
    exact mCh_no hQ (by decide)
  · rw [hv, show inB (Int32.ofNat k) 0 2 = true from inB_on (n := 2) (by omega) hk rfl, hmo k hk, e, clamp_nn (by omega)] at hQ
    exact mCh_yes hQ rfl rfl
end MCH
theorem kept_congr {M : mM} {b : Nat} {N N' : Nat → Int32} (hN : ∀ j, j < 207 → N' j = N j) (h : kept M b N) : kept M b N' := by
  obtain ⟨m, S, t, a, b⟩ := h
  exact ⟨m, S, t, TrN_congr hN a, rOk_congr hN b⟩
theorem remC_lt {c : Nat} (h : c < 10) : remC c = c := by
  rw [remC, nbf (show c ≠ 10 by omega)]; rfl
theorem row_old {O N : Nat → Int32} {c i j : Nat} (hc : c < 10) (hi : i < c) (hj : j < 207) : rowAt (remO O N c) i j = rowAt O i j := by
  rw [rowAt, rowAt, remO, remC_lt hc, nbf (show c ≠ 10 by omega), cond_false, copyF, if_neg (by omega)]
theorem row_new {O N : Nat → Int32} {c j : Nat} (hj : j < 207) : rowAt (remO O N c) (remC c) j = N j := by
  rw [rowAt, remO, copyF, if_pos (by omega)]
  congr 1
  omega
theorem row_shift {O N : Nat → Int32} {i j : Nat} (hi : i < 9) (hj : j < 207) : rowAt (remO O N 10) i j = rowAt O (i + 1) j := by
  rw [rowAt, rowAt, remO, show remC 10 = 9 from rfl, show Nat.beq 10 10 = true from rfl, cond_true, copyF, if_neg (by omega), shiftF, if_pos (by omega)]
  congr 1
  omega
theorem his_hi {M : mM} {nx c q : Nat} (hn : nx < 10) (h : 140 < q) : hisM M nx c q = M q := by
  rw [hisM, upM_ne (by omega), becM_far (by omega)]
theorem his_next {M M2 : mM} {nx c m S t : Nat} (hT : TrN M 12 (M 149) m S t) (hR : rOk (M 149) m S t) (hH : I_his M nx c) (h1 : ∀ q, 49 ≤ q → q ≤ 140 → M2 q = hisM M nx c q) (h2 : M2 151 = remO (M 151) (M 149) c) (h3 : M2 145 7 = Int32.ofNat (remC c + 1)) : I_his M2 (nxN nx) (remC c + 1) := by
  obtain ⟨a1, a2, a3, a4, a5, a6, a7⟩ := hH
  have hc' : (if 10 < c + 1 then 10 else c + 1) = remC c + 1 := by
    by_cases h : c = 10
    · subst h; rfl
    · rw [remC_lt (by omega), if_neg (by omega)]
  have hnx : nxN nx < 10 := by
    unfold nxN
    split <;> omega
  have hrc : remC c + 1 ≤ 10 := by
    by_cases h : c = 10
    · subst h; decide
    · rw [remC_lt (by omega)]; omega
  have h49 : hisM M nx c 49 = upd (upd (M 49) 1 (Int32.ofNat (nxN nx))) 2 (Int32.ofNat (remC c + 1)) := by
    rw [hisM, upM_at, hc']
  have far : ∀ i, i < 10 → i ≠ nx → ∀ q, 51 + 9 * i ≤ q → q ≤ 51 + 9 * i + 8 → M2 q = M q := fun i hi hn q x y => by
    rw [h1 q (by omega) (by omega), hisM, upM_ne (by omega), becM_far (by omega)]
  have here : ∀ q, 51 + 9 * nx ≤ q → q ≤ 51 + 9 * nx + 8 → M2 q = becM M (51 + 9 * nx) 12 q := fun q x y => by
    rw [h1 q (by omega) (by omega), hisM, upM_ne (by omega)]
  have hwn := a6 nx a1
  have tnew : kept M2 (51 + 9 * nx) (M 149) := ⟨m, S, t, TrN_fr (TrN_bec hT hwn.1 hwn.2.1 hwn.2.2) here, hR⟩
  refine ⟨hnx, hrc, by rw [h1 49 (by omega) (by omega), h49, upd_ne (by decide), upd_at], by rw [h1 49 (by omega) (by omega), h49, upd_at], h3, fun i hi => ?_, fun i hi => ?_⟩
  · by_cases e : i = nx
    · subst e
      obtain ⟨m', S', t', b1, b2⟩ := tnew
      exact TrN_wid b1
    · exact wid_fr (a6 i hi) (fun q x y => far i hi e q x y)
  · rw [h2]
    by_cases h : c = 10
    · subst h
      have hrc9 : remC 10 = 9 := rfl
      rw [hrc9] at hi ⊢
      by_cases e : i = 9
      · subst e
        rw [show hisAt (nxN nx) (9 + 1) 9 = 51 + 9 * nx by
          unfold hisAt nxN
          split <;> omega]
        exact kept_congr (fun j hj => row_new (c := 10) hj) tnew
      · have hh : hisAt (nxN nx) (9 + 1) i = hisAt nx 10 (i + 1) := by
          unfold hisAt nxN
          split <;> omega
        have hk := a7 (i + 1) (by omega)
        rw [hh]
        refine kept_congr (fun j hj => row_shift (by omega) hj) (kept_fr hk (fun q x y => ?_))
        have hx : (nx + 10 - 10 + (i + 1)) % 10 ≠ nx := by omega
        exact far ((nx + 10 - 10 + (i + 1)) % 10) (by omega) hx q x y
    · rw [remC_lt (by omega)] at hi ⊢
      by_cases e : i = c
      · subst e
        rw [show hisAt (nxN nx) (i + 1) i = 51 + 9 * nx by
          unfold hisAt nxN
          split <;> omega]
        refine kept_congr (fun j hj => ?_) tnew
        have h9 := row_new (O := M 151) (N := M 149) (c := i) hj
        rw [remC_lt (by omega)] at h9
        exact h9
      · have hh : hisAt (nxN nx) (c + 1) i = hisAt nx c i := by
          unfold hisAt nxN
          split <;> omega
        have hk := a7 i (by omega)
        rw [hh]
        refine kept_congr (fun j hj => row_old (by omega) (by omega) hj) (kept_fr hk (fun q x y => ?_))
        have hx : (nx + 10 - c + i) % 10 ≠ nx := by omega
        exact far ((nx + 10 - c + i) % 10) (by omega) hx q x y
theorem inv_do {sb : Nat} {ext : List sh} {M M1 M2 : mM} {nx c m S t m' S' t' : Nat} {N' : Nat → Int32} (hI : Inv sb ext M) (hT : TrN M 12 (M 149) m S t) (hR : rOk (M 149) m S t) (hH : I_his M nx c) (hT1 : TrN M1 12 N' m' S' t') (hR1 : rOk N' m' S' t') (hF : FrH M nx c M1) (hD : FrD M1 c N' M2) : Inv sb ext M2 := by
  obtain ⟨-, ⟨b1, b2⟩, -, ⟨z, hz⟩, ⟨n, hn⟩, he, ⟨p, hp⟩, hk⟩ := hI
  obtain ⟨d1, d2, d3, d4, d5, d6⟩ := hD
  have hn10 := hH.1
  have m1 : ∀ q, (q < 12 ∨ 20 < q) → q ≠ 157 → M1 q = hisM M nx c q := hF
  have e149 : M1 149 = M 149 := by rw [m1 149 (by omega) (by omega), his_hi hn10 (by omega)]
  have e151 : M1 151 = M 151 := by rw [m1 151 (by omega) (by omega), his_hi hn10 (by omega)]
  have e145 : M1 145 = M 145 := by rw [m1 145 (by omega) (by omega), his_hi hn10 (by omega)]
  have lo : ∀ q, (q < 12 ∨ 20 < q ∧ q < 49) → M2 q = M q := fun q h => by
    rw [d6 q (by omega) (by omega) (by omega) (by omega), m1 q (by omega) (by omega), his_lo (by omega)]
  have hi : ∀ q, 140 < q → q ≠ 145 → q ≠ 149 → q ≠ 151 → q ≠ 153 → q ≠ 157 → M2 q = M q := fun q h h1 h2 h3 h4 h5 => by
    rw [d6 q h1 h2 h3 h4, m1 q (by omega) h5, his_hi hn10 h]
  have f145 : ∀ j, j ≠ 3 → j ≠ 7 → M2 145 j = M 145 j := fun j h3 h7 => by rw [d5 j h3 h7, e145]
  have hs := hp.2.2.2.2.1
  refine ⟨⟨m', S', t', ?_, by rw [d1]; exact hR1⟩, ⟨wid_fr b1 (fun q x y => lo q (by omega)), wid_fr b2 (fun q x y => lo q (by omega))⟩, ⟨nxN nx, remC c + 1, his_next hT hR hH (fun q x y => ?_) (by rw [d2, e149, e151]) d3⟩, ⟨z, sav_fr hz (fun q x y => lo q (by omega)) (f145 9 (by omega) (by omega)) (hi 152 (by omega) (by omega) (by omega) (by omega) (by omega) (by omega)) (hi 141 (by omega) (by omega) (by omega) (by omega) (by omega) (by omega))⟩, ⟨n, inp_fr hn (by rw [lo 1 (by omega)]) (lo 2 (by omega)) (f145 13 (by omega) (by omega)) (hi 155 (by omega) (by omega) (by omega) (by omega) (by omega) (by omega))⟩, err_fr he (lo 1 (by omega)) (f145 16 (by omega) (by omega)) (f145 17 (by omega) (by omega)), ⟨p, out_fr hp (f145 15 (by omega) (by omega)) (hi 142 (by omega) (by omega) (by omega) (by omega) (by omega) (by omega)) (fun j _ => by rw [hi sb (by omega) (by omega) (by omega) (by omega) (by omega) (by omega)]) (hi 156 (by omega) (by omega) (by omega) (by omega) (by omega) (by omega))⟩, key_fr hk (hi 146 (by omega) (by omega) (by omega) (by omega) (by omega) (by omega)) (hi 147 (by omega) (by omega) (by omega) (by omega) (by omega) (by omega)) (hi 148 (by omega) (by omega) (by omega) (by omega) (by omega) (by omega))⟩
  · rw [d1]
    exact TrN_fr hT1 (fun q x y => d6 q (by omega) (by omega) (by omega) (by omega))
  · rw [d6 q (by omega) (by omega) (by omega) (by omega), m1 q (by omega) (by omega)]
