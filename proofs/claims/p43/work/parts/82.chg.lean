/-! changes: what the law's wrappers answer -/
def FrH (M : mM) (nx c : Nat) (M' : mM) : Prop := ∀ q, (q < 12 ∨ 20 < q) → M' q = hisM M nx c q
/-- a change: it throws, or it is remembered and made -/
def qCh (Q : mQ) (G : List sh) (M : mM) (nx c : Nat) (e : Int32 → Nat) (u : Int32 × Int32) (N' : Nat → Int32) (m' S' t' : Nat) : Prop := (u.1 ≠ 0 → Q (.inr (e u.1)) G M 1 6) ∧ (u.1 = 0 → ∀ M', TrN M' 12 N' m' S' t' → FrH M nx c M' → Q (.inl (some (.int u.2))) G M' 0 0)
def ePack (k : Int32) : Nat := bif decide (k = 1) then 2 else bif decide (k = 2) then 1 else 0
def eNI (k : Int32) : Nat := bif decide (k = 1) then 2 else 0
def eAI (k : Int32) : Nat := bif decide (k = 1) then 1 else 0
def eN (_ : Int32) : Nat := 2
def eI (_ : Int32) : Nat := 0
def eA (_ : Int32) : Nat := 1
theorem qCh_no {Q : mQ} {G : List sh} {M : mM} {nx c m' S' t' z : Nat} {e : Int32 → Nat} {k x : Int32} {N' : Nat → Int32} (h : qCh Q G M nx c e (k, x) N' m' S' t') (hk : k ≠ 0) (hz : e k = z) : Q (.inr z) G M 1 6 := by
  subst hz
  exact h.1 hk
theorem qCh_yes {Q : mQ} {G : List sh} {M M1 : mM} {nx c m' S' t' : Nat} {e : Int32 → Nat} {x y : Int32} {N' : Nat → Int32} (h : qCh Q G M nx c e (0, x) N' m' S' t') (hT : TrN M1 12 N' m' S' t') (hF : FrH M nx c M1) (hy : y = x) : Q (.inl (some (.int y))) G M1 0 0 := by
  subst hy
  exact h.2 rfl M1 hT hF
theorem his_lo {M : mM} {nx c q : Nat} (h : q < 49) : hisM M nx c q = M q := by
  rw [hisM, upM_ne (by omega), becM_far (by omega)]
theorem his_T {M : mM} {nx c m S t : Nat} {N : Nat → Int32} (hT : TrN M 12 N m S t) : TrN (hisM M nx c) 12 N m S t := TrN_fr hT (fun q h1 h2 => his_lo (by omega))
theorem TrN_set {M : mM} {b : Nat} {N : Nat → Int32} {m S t k : Nat} {x : Int32} (hT : TrN M b N m S t) (hk : k < 3) : TrN (upM M (b + 7) (upd (M (b + 7)) k x)) b (upd N k x) m S t := by
  obtain ⟨⟨a1, a2, a3, a4, a5, a6⟩, ⟨b1, b2⟩, ⟨c1, c2⟩, ⟨d1, d2⟩, ⟨e1, e2⟩, f1, g1, h1, i1, j1⟩ := hT
  have ne : ∀ q, q ≠ b + 7 → upM M (b + 7) (upd (M (b + 7)) k x) q = M q := fun q hq => upM_ne hq
  have nu : ∀ j, 2 < j → upd N k x j = N j := fun j hj => upd_ne (by omega)
  refine ⟨⟨by rw [nu 3 (by omega)]; exact a1, by rw [nu 4 (by omega)]; exact a2, by rw [nu 5 (by omega)]; exact a3, a4, a5, a6⟩, ⟨by rw [ne b (by omega), nu 6 (by omega)]; exact b1, by rw [ne b (by omega), nu 7 (by omega)]; exact b2⟩, ⟨by rw [ne _ (by omega)]; exact c1, by rw [ne _ (by omega)]; exact c2⟩, ⟨by rw [ne _ (by omega)]; exact d1, by rw [ne _ (by omega)]; exact d2⟩, ⟨by rw [ne _ (by omega)]; exact e1, by rw [ne _ (by omega)]; exact e2⟩, fun j hj => ?_, fun j hj => by rw [ne _ (by omega), nu _ (by omega)]; exact g1 j hj, fun i c hi hc => by rw [ne _ (by omega), nu _ (by omega)]; exact h1 i c hi hc, fun i hi => ?_, fun i c hi hc => by rw [ne _ (by omega), nu _ (by omega)]; exact j1 i c hi hc⟩
  · rw [upM_at]
    by_cases e : j = k
    · rw [e, upd_at, upd_at]
    · rw [upd_ne e, upd_ne e]; exact f1 j hj
  · obtain ⟨k1, k2, k3, k4⟩ := i1 i hi
    refine ⟨by rw [ne _ (by omega), nu _ (by omega)]; exact k1, by rw [ne _ (by omega), nu _ (by omega)]; exact k2, ?_, fun j hj => by rw [ne _ (by omega), nu _ (by omega)]; exact k4 j hj⟩
    rw [ne _ (by omega), lettN_congr (N := N) (fun n hn => nu _ (by omega))]; exact k3
def u_pack (N : Nat → Int32) (S : Nat) (v w x : Int32) : Int32 × Int32 := bif inB v 0 (N 4 - 1) && inB w 0 (N 3 - 1) then (bif inB x 0 1 then (if prN N v.toNatClampNeg w.toNatClampNeg S = 0 then (0, loadN (packN N v.toNatClampNeg w x) w S) else (3, 0)) else (2, 0)) else (1, 0)
def u_unpack (N : Nat → Int32) (S : Nat) (v : Int32) : Int32 × Int32 := bif inB v 0 (N 4 - 1) then (if N (63 + 8 * v.toNatClampNeg + 3) = 1 then (0, loadN (leaveN N v.toNatClampNeg 0) (N (63 + 8 * v.toNatClampNeg + 4)) S) else (2, 0)) else (1, 0)
def u_shift (N : Nat → Int32) (S : Nat) (v : Int32) : Int32 × Int32 := bif inB v 0 (N 4 - 1) then (if N (63 + 8 * v.toNatClampNeg + 3) = 1 then (0, absB (wOn (shN N v.toNatClampNeg) (N (63 + 8 * v.toNatClampNeg + 4)) 0 S - wOn (shN N v.toNatClampNeg) (N (63 + 8 * v.toNatClampNeg + 4)) 1 S)) else (2, 0)) else (1, 0)
def u_fill (N : Nat → Int32) (S : Nat) (v : Int32) : Int32 × Int32 := bif inB v 0 (N 3 - 1) then (0, Int32.ofNat (fillK v.toNatClampNeg S 16 N)) else (1, 0)
def u_trip (N T : Nat → Int32) (m S : Nat) : Int32 × Int32 := if whyN N m S = 0 then (if N 6 = 9999 then (1, 0) else (0, T 7 - N 7)) else (1, 0)
def u_rest (N : Nat → Int32) (m : Nat) (v : Int32) : Int32 × Int32 := bif inB v 1 99 then (if 9999 < N 6 + v then (2, 0) else (0, tiredN (restN m N v.toNatClampNeg) m)) else (1, 0)
section CHG
variable {RO : List mE} {d sb : Nat} {ext : List sh} {M : mM} {Q : mQ} {m S t nx c : Nat} {N : Nat → Int32}
theorem c_rem (hT : TrN M 12 N m S t) (hH : I_his M nx c) : EvR RO (d + 3) 3 [.ref 49, .ref 12] (gW sb ext) M none (hisM M nx c) := c_remember hT hH.1 hH.2.1 hH.2.2.1 hH.2.2.2.1 (hH.2.2.2.2 nx hH.1).1 (hH.2.2.2.2 nx hH.1).2.1 (hH.2.2.2.2 nx hH.1).2.2
theorem q_pack {v w x : Int32} (hT : TrN M 12 N m S t) (hR : rOk N m S t) (hH : I_his M nx c) (hQ : qCh Q (gW sb ext) M nx c ePack (u_pack N S v w x) (packN N v.toNatClampNeg w x) m S t) : EvP RO (d + 7) 105 [.ref 0, .int v, .int w, .int x] (gW sb ext) M Q := by
  have hS := hT.1.2.2.2.2.1
  have hm := hT.1.2.2.2.1
  have e4 := hT.1.2.1
  have e3 := hT.1.1
  have hu := hT.2.2.1.2
  have hum := hT.2.2.2.1.2
  rw [u_pack] at hQ
  refine EvP.wp [] 60 rfl ?_
  refine EvP.wp [] 60 rfl ?_
  refine ⟨fun h0 => ?_, fun h0 => ?_⟩
  · rw [inB_out (by omega) e4 (Or.inl h0)] at hQ
    exact qCh_no hQ (by decide) (by decide)
  refine ⟨fun h1 => ?_, fun h1 => ?_⟩
  rotate_left
  · rw [hu] at h1
    rw [inB_out (by omega) e4 (Or.inr h1)] at hQ
    exact qCh_no hQ (by decide) (by decide)
  rw [hu] at h1
  obtain ⟨k, hk, rfl⟩ := nat_lt (by omega) h0 h1
  rw [inB_in (by omega) e4 hk rfl, Bool.true_and, clamp_nn (by omega)] at hQ
  refine EvP.wp [] 60 rfl ?_
  refine ⟨fun h2 => ?_, fun h2 => ?_⟩
  · rw [inB_out (by omega) e3 (Or.inl h2)] at hQ
    exact qCh_no hQ (by decide) (by decide)
  refine ⟨fun h3 => ?_, fun h3 => ?_⟩
  rotate_left
  · rw [hum] at h3
    rw [inB_out (by omega) e3 (Or.inr h3)] at hQ
    exact qCh_no hQ (by decide) (by decide)
  rw [hum] at h3
  obtain ⟨i, hi, rfl⟩ := nat_lt (by omega) h2 h3
  rw [inB_in (by omega) e3 hi rfl, cond_true, clamp_nn (by omega)] at hQ
  have main : x = 0 ∨ x = 1 → (∀ d, EvR RO (d + 3) 68 [.ref 12, .int (Int32.ofNat k), .int (Int32.ofNat i)] (gW sb ext) M (some (.int (prN N k i S))) M) ∧ (¬ prN N k i S = 0 → Q (.inr 0) (gW sb ext) M 1 6) ∧ (prN N k i S = 0 → (∀ (d : Nat) (Q' : mQ), (∀ M', TrN M' 12 (packN N k (Int32.ofNat i) x) m S t → FrH M nx c M' → (∀ d, EvR RO (d + 2) 56 [.ref 12, .int (Int32.ofNat i)] (gW sb ext) M' (some (.int (loadN (packN N k (Int32.ofNat i) x) (Int32.ofNat i) S))) M') → Q (.inl (some (.int (loadN (packN N k (Int32.ofNat i) x) (Int32.ofNat i) S)))) (gW sb ext) M' 0 0 → Q' (.inl none) (gW sb ext) M' 0 0) → EvP RO (d + 2) 66 [.ref 12, .int (Int32.ofNat k), .int (Int32.ofNat i), .int x] (gW sb ext) (hisM M nx c) Q')) := by
    intro hx
    have hin : inB x 0 1 = true := by rcases hx with rfl | rfl <;> decide
    rw [hin, cond_true] at hQ
    refine ⟨fun d => c_reason bas_12 hT hR.1.2.1 hk hi, fun h => ?_, fun h d Q' hQ' => ?_⟩
    · rw [if_neg h] at hQ
      exact qCh_no hQ (by decide) (by decide)
    · rw [if_pos h] at hQ
      refine c_putOn bas_12 (his_T hT) hk (fun M' x1 x2 => ?_)
      exact hQ' M' x1 (fun q h1 => x2 q (by omega)) (fun d => c_loadOn bas_12 x1 (fun y hy => sackOk_pack hi hx (hR.1.2.1 y hy)) (by omega)) (qCh_yes hQ x1 (fun q h1 => x2 q (by omega)) rfl)
  refine ⟨fun h4 => ?_, fun h4 => ?_⟩
  · obtain ⟨r1, r2, r3⟩ := main (Or.inl h4)
    refine (r1 _).use ?_
    refine ⟨fun h5 => ?_, fun h5 => r2 h5⟩
    refine (c_rem hT hH).use ?_
    refine r3 h5 _ _ (fun M' x1 x2 x3 x4 => ?_)
    refine (x3 _).use ?_
    exact x4
  refine ⟨fun h5 => ?_, fun h5 => ?_⟩
  · obtain ⟨r1, r2, r3⟩ := main (Or.inr h5)
    refine (r1 _).use ?_
    refine ⟨fun h5 => ?_, fun h5 => r2 h5⟩
    refine (c_rem hT hH).use ?_
    refine r3 h5 _ _ (fun M' x1 x2 x3 x4 => ?_)
    refine (x3 _).use ?_
    exact x4
  · rw [show inB x 0 1 = false by
      cases hb : inB x 0 1 with
      | false => rfl
      | true =>
        obtain ⟨j, hj, hx⟩ := inB_c (n := 1) (by omega) hb
        rcases (show j = 0 ∨ j = 1 by omega) with rfl | rfl
        · exact absurd hx h4
        · exact absurd hx h5] at hQ
    exact qCh_no hQ (by decide) (by decide)
theorem q_unpack {v : Int32} (hT : TrN M 12 N m S t) (hR : rOk N m S t) (hH : I_his M nx c) (hQ : qCh Q (gW sb ext) M nx c eNI (u_unpack N S v) (leaveN N v.toNatClampNeg 0) m S t) : EvP RO (d + 7) 125 [.ref 0, .int v] (gW sb ext) M Q := by
  have hS := hT.1.2.2.2.2.1
  have hm := hT.1.2.2.2.1
  have e4 := hT.1.2.1
  have hu := hT.2.2.1.2
  rw [u_unpack] at hQ
  refine EvP.wp [] 60 rfl ?_
  refine EvP.wp [] 60 rfl ?_
  refine ⟨fun h0 => ?_, fun h0 => ?_⟩
  · rw [inB_out (by omega) e4 (Or.inl h0)] at hQ
    exact qCh_no hQ (by decide) (by decide)
  refine ⟨fun h1 => ?_, fun h1 => ?_⟩
  rotate_left
  · rw [hu] at h1
    rw [inB_out (by omega) e4 (Or.inr h1)] at hQ
    exact qCh_no hQ (by decide) (by decide)
  rw [hu] at h1
  obtain ⟨k, hk, rfl⟩ := nat_lt (by omega) h0 h1
  rw [inB_in (by omega) e4 hk rfl, cond_true, clamp_nn (by omega)] at hQ
  refine EvP.wp [] 60 rfl ?_
  refine (c_atS (c := 3) bas_12 hT hk (by omega)).use ?_
  refine ⟨fun h2 => ?_, fun h2 => ?_⟩
  rotate_left
  · rw [if_neg h2] at hQ
    exact qCh_no hQ (by decide) (by decide)
  rw [if_pos h2] at hQ
  refine (c_rem hT hH).use ?_
  refine (c_atS (c := 4) bas_12 (his_T hT) hk (by omega)).use ?_
  have h6 : N (63 + 8 * k + 6) = -1 := by
    obtain ⟨p, p1, p2, p3⟩ := hR.2.1 k hk
    refine p3 ?_
    have := i_inj (by omega) (by omega) (p2.symm.trans (h2.trans (show (1 : Int32) = Int32.ofNat 1 from rfl)))
    omega
  have hoff : offN N k 0 = leaveN N k 0 := by
    rw [leaveN, show decide ((0 : Int32) = 0) = true from rfl, cond_true]
    show offN N k 0 = upd (offN N k 0) (63 + 8 * k + 6) (-1)
    funext j
    by_cases e : j = 63 + 8 * k + 6
    · rw [e, upd_at]
      show upd (upd (upd N (63 + 8 * k + 3) 0) (63 + 8 * k + 4) (-1)) (63 + 8 * k + 5) (-1) (63 + 8 * k + 6) = -1
      rw [upd_ne (by omega), upd_ne (by omega), upd_ne (by omega)]; exact h6
    · rw [upd_ne e]
  have hj : ∃ j, j < m ∧ N (63 + 8 * k + 4) = Int32.ofNat j := by
    rcases hR.1.2.1 k hk with ⟨_, h, _⟩ | ⟨h, _⟩
    · exact h
    · exact absurd h2 h
  obtain ⟨j, j1, j2⟩ := hj
  refine c_takeOff bas_12 (his_T hT) hk (fun M' x1 x2 => ?_)
  rw [hoff] at x1
  have hlo := fun d => c_loadOn (RO := RO) (d := d) (GG := gW sb ext) (j := j) bas_12 x1 (fun y hy => sackOk_leavez (by decide) (hR.1.2.1 y hy)) (by omega)
  rw [← j2] at hlo
  refine (hlo _).use ?_
  exact qCh_yes hQ x1 (fun q h1 => x2 q (by omega)) rfl
theorem q_shift {v : Int32} (hT : TrN M 12 N m S t) (hR : rOk N m S t) (hH : I_his M nx c) (hQ : qCh Q (gW sb ext) M nx c eNI (u_shift N S v) (shN N v.toNatClampNeg) m S t) : EvP RO (d + 7) 118 [.ref 0, .int v] (gW sb ext) M Q := by
  have hS := hT.1.2.2.2.2.1
  have hm := hT.1.2.2.2.1
  have e4 := hT.1.2.1
  have hu := hT.2.2.1.2
  rw [u_shift] at hQ
  refine EvP.wp [] 60 rfl ?_
  refine EvP.wp [] 60 rfl ?_
  refine ⟨fun h0 => ?_, fun h0 => ?_⟩
  · rw [inB_out (by omega) e4 (Or.inl h0)] at hQ
    exact qCh_no hQ (by decide) (by decide)
  refine ⟨fun h1 => ?_, fun h1 => ?_⟩
  rotate_left
  · rw [hu] at h1
    rw [inB_out (by omega) e4 (Or.inr h1)] at hQ
    exact qCh_no hQ (by decide) (by decide)
  rw [hu] at h1
  obtain ⟨k, hk, rfl⟩ := nat_lt (by omega) h0 h1
  rw [inB_in (by omega) e4 hk rfl, cond_true, clamp_nn (by omega)] at hQ
  refine EvP.wp [] 60 rfl ?_
  refine (c_atS (c := 3) bas_12 hT hk (by omega)).use ?_
  refine ⟨fun h2 => ?_, fun h2 => ?_⟩
  rotate_left
  · rw [if_neg h2] at hQ
    exact qCh_no hQ (by decide) (by decide)
  rw [if_pos h2] at hQ
  refine (c_rem hT hH).use ?_
  have hsj : (∃ j, j < m ∧ N (63 + 8 * k + 4) = Int32.ofNat j) ∧ (N (63 + 8 * k + 5) = 0 ∨ N (63 + 8 * k + 5) = 1) := by
    rcases hR.1.2.1 k hk with ⟨_, h, h9⟩ | ⟨h, _⟩
    · exact ⟨h, h9⟩
    · exact absurd h2 h
  obtain ⟨⟨j, j1, j2⟩, hsd⟩ := hsj
  have t1 := TrN_putS (c := 5) (x := 1 - N (63 + 8 * k + 5)) (his_T (nx := nx) (c := c) hT) hk (by omega)
  have p1 := fun d => c_putS (RO := RO) (d := d) (GG := gW sb ext) (c := 5) (x := 1 - N (63 + 8 * k + 5)) bas_12 (his_T (nx := nx) (c := c) hT) hk (by omega)
  have hF : FrH M nx c (upM (hisM M nx c) (12 + 2) (upd (hisM M nx c (12 + 2)) (8 * k + 5) (1 - N (63 + 8 * k + 5)))) := fun q h1 => upM_ne (by omega)
  have ne4 : shN N k (63 + 8 * k + 4) = N (63 + 8 * k + 4) := upd_ne (by omega)
  have q4 := fun d => c_atS (RO := RO) (d := d) (GG := gW sb ext) (c := 4) bas_12 t1 hk (by omega)
  have hO' : sacksOk (shN N k) m S := (rOk_shift hR hk h2).1.2.1
  have hlw := fun d => c_leftward (RO := RO) (d := d) (GG := gW sb ext) (j := j) bas_12 t1 hO' (by omega)
  have q4' : ∀ d, EvR RO (d + 1) 31 [.ref 13, .int (Int32.ofNat k), .int (Int32.ofNat 4)] (gW sb ext) _ (some (.int (Int32.ofNat j))) _ := fun d => by
    have h9 := q4 d
    rw [show upd N (63 + 8 * k + 5) (1 - N (63 + 8 * k + 5)) (63 + 8 * k + 4) = Int32.ofNat j from ne4.trans j2] at h9
    exact h9
  have hy := qCh_yes (y := absB (wOn (shN N k) (Int32.ofNat j) 0 S - wOn (shN N k) (Int32.ofNat j) 1 S)) hQ t1 hF (by rw [j2])
  rw [← abs_eq] at hy
  refine (c_atS (c := 5) bas_12 (his_T hT) hk (by omega)).use ?_
  refine ⟨fun h3 => ?_, fun h3 => ?_⟩
  · have hsh : shN N k = upd N (63 + 8 * k + 5) 1 := by rw [shN, h3, show (1 : Int32) - 0 = 1 from by decide]
    rw [hsh] at hy
    rw [h3, show (1 : Int32) - 0 = 1 from by decide] at hy
    simp only [h3, show (1 : Int32) - 0 = 1 from by decide] at p1 q4' hlw
    refine (p1 _).use ?_
    refine (q4' _).use ?_
    refine (hlw _).use ?_
    exact hy
  · have h3' : N (63 + 8 * k + 5) = 1 := hsd.resolve_left h3
    have hsh : shN N k = upd N (63 + 8 * k + 5) 0 := by rw [shN, h3', show (1 : Int32) - 1 = 0 from by decide]
    rw [hsh] at hy
    rw [h3', show (1 : Int32) - 1 = 0 from by decide] at hy
    simp only [h3', show (1 : Int32) - 1 = 0 from by decide] at p1 q4' hlw
    refine (p1 _).use ?_
    refine (q4' _).use ?_
    refine (hlw _).use ?_
    exact hy
theorem q_fill {v : Int32} (hT : TrN M 12 N m S t) (hR : rOk N m S t) (hH : I_his M nx c) (hQ : qCh Q (gW sb ext) M nx c eN (u_fill N S v) (fillN v.toNatClampNeg S 16 N) m S t) : EvP RO (d + 7) 91 [.ref 0, .int v] (gW sb ext) M Q := by
  have hS := hT.1.2.2.2.2.1
  have hm := hT.1.2.2.2.1
  have e3 := hT.1.1
  have hu := hT.2.2.2.1.2
  rw [u_fill] at hQ
  refine EvP.wp [] 60 rfl ?_
  refine EvP.wp [] 60 rfl ?_
  refine ⟨fun h0 => ?_, fun h0 => ?_⟩
  · rw [inB_out (by omega) e3 (Or.inl h0)] at hQ
    exact qCh_no hQ (by decide) (by decide)
  refine ⟨fun h1 => ?_, fun h1 => ?_⟩
  rotate_left
  · rw [hu] at h1
    rw [inB_out (by omega) e3 (Or.inr h1)] at hQ
    exact qCh_no hQ (by decide) (by decide)
  rw [hu] at h1
  obtain ⟨k, hk, rfl⟩ := nat_lt (by omega) h0 h1
  rw [inB_in (by omega) e3 hk rfl, cond_true, clamp_nn (by omega)] at hQ
  refine (c_rem hT hH).use ?_
  refine c_packBest bas_12 (his_T hT) hR.1.2.1 hR.1.2.2.1 hk (fun M' x1 x2 => ?_)
  exact qCh_yes hQ x1 (fun q h1 => x2 q (by omega)) rfl
theorem q_trip {G0 : Nat → Int32} (hT : TrN M 12 N m S t) (hR : rOk N m S t) (hH : I_his M nx c) (hQ : qCh Q (gW sb ext) M nx c eI (u_trip N (trN G0 N m S t) m S) (trN G0 N m S t) m S t) : EvP RO (d + 8) 122 [.ref 0] (gW sb ext) M Q := by
  obtain ⟨D, d1, d2⟩ := hR.2.2.2.1
  have hmt := fun d => c_mayTravel (RO := RO) (d := d) (GG := gW sb ext) bas_12 hT hR.1.2.1 d1 d2
  rw [u_trip] at hQ
  refine EvP.wp [] 60 rfl ?_
  refine (hmt _).use ?_
  refine zb_if (fun h => ?_) (fun h => ?_)
  · by_cases hw : whyN N m S = 0
    · rw [if_pos hw] at hQ
      rw [decide_eq_true hw, Bool.true_and] at h
      have h9 := of_decide_eq_false h
      rw [if_pos (by rw [d1, show D = 9999 by omega]; rfl)] at hQ
      exact qCh_no hQ (by decide) (by decide)
    · rw [if_neg hw] at hQ
      exact qCh_no hQ (by decide) (by decide)
  · rw [Bool.and_eq_true] at h
    have hw := of_decide_eq_true h.1
    have hD := of_decide_eq_true h.2
    rw [if_pos hw, if_neg (fun e => by
      rw [d1] at e
      have := i_inj (by omega) (by omega) (e.trans (show (9999 : Int32) = Int32.ofNat 9999 from rfl))
      omega)] at hQ
    refine (c_rem hT hH).use ?_
    refine c_travel (G0 := G0) bas_12 (his_T hT) hR.1 (fun M' x1 x2 => ?_)
    exact qCh_yes hQ x1 (fun q h1 => x2 q (by omega)) rfl
theorem inB_1 {v : Int32} {n : Nat} (hn : n < 1000000) (h1 : ¬ v < 1) (h2 : ¬ Int32.ofNat n < v) : inB v 1 (Int32.ofNat n) = true ∧ ∃ x, 1 ≤ x ∧ x ≤ n ∧ v = Int32.ofNat x := by
  have h : inB v 1 (Int32.ofNat n) = true := by rw [inB, decide_eq_true h1, decide_eq_true h2]; rfl
  exact ⟨h, inB_r (a := 1) (by omega) hn h⟩
theorem inB_lo {v a b : Int32} (h : v < a) : inB v a b = false := by rw [inB, decide_eq_false (p := ¬ v < a) (fun h9 => h9 h), Bool.false_and]
theorem inB_hi {v a b : Int32} (h : b < v) : inB v a b = false := by rw [inB, decide_eq_false (p := ¬ b < v) (fun h9 => h9 h), Bool.and_false]
theorem inB_mid {v a b : Int32} (h1 : ¬ v < a) (h2 : ¬ b < v) : inB v a b = true := by rw [inB, decide_eq_true h1, decide_eq_true h2]; rfl
theorem q_rest {v : Int32} (hT : TrN M 12 N m S t) (hR : rOk N m S t) (hH : I_his M nx c) (hQ : qCh Q (gW sb ext) M nx c eAI (u_rest N m v) (restN m N v.toNatClampNeg) m S t) : EvP RO (d + 7) 112 [.ref 0, .int v] (gW sb ext) M Q := by
  obtain ⟨D, d1, d2⟩ := hR.2.2.2.1
  have g6 : M 12 5 = Int32.ofNat D := hT.2.1.1.trans d1
  rw [u_rest] at hQ
  refine EvP.wp [] 60 rfl ?_
  refine ⟨fun h0 => ?_, fun h0 => ?_⟩
  · rw [inB_lo h0] at hQ
    exact qCh_no hQ (by decide) (by decide)
  refine ⟨fun h1 => ?_, fun h1 => ?_⟩
  · rw [inB_hi h1] at hQ
    exact qCh_no hQ (by decide) (by decide)
  obtain ⟨hin, n, n1, n2, rfl⟩ := inB_1 (n := 99) (by omega) h0 h1
  rw [show inB (Int32.ofNat n) 1 99 = true from hin, cond_true, clamp_nn (by omega), d1, i_add] at hQ
  refine gt_if (a := D + n) (b := 9999) (by rw [g6, i_add]) rfl (by omega) (by omega) (fun h2 => ?_) (fun h2 => ?_)
  · rw [if_pos (by rw [show (9999 : Int32) = Int32.ofNat 9999 from rfl, i_lt (by omega) (by omega)]; exact h2)] at hQ
    exact qCh_no hQ (by decide) (by decide)
  · rw [if_neg (by rw [show (9999 : Int32) = Int32.ofNat 9999 from rfl, i_lt (by omega) (by omega)]; omega)] at hQ
    refine (c_rem hT hH).use ?_
    refine c_stayFor bas_12 (his_T hT) hR.1 n2 (fun M' x1 x2 => ?_)
    refine (c_tiredTogether x1).use ?_
    exact qCh_yes hQ x1 (fun q h1 => x2 q (by omega)) rfl
end CHG
