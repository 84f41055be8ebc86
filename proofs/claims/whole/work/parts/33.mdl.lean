/-! a stage's doings -/
theorem i_div {a b : Nat} (ha : a < 1000000) (hb : b < 1000000) : Int32.ofNat a / Int32.ofNat b = Int32.ofNat (a / b) := by
  apply Int32.toInt_inj.mp
  have h1 : a / b ≤ a := Nat.div_le_self a b
  rw [Int32.toInt_div, i_toInt ha, i_toInt hb, i_toInt (by omega)]
  rw [show ((a : Int).tdiv (b : Int)) = ((a / b : Nat) : Int) from rfl]
  generalize a / b = q at h1
  apply Int.bmod_eq_of_le <;> omega
def muleOk (N : Nat → Int32) (i : Nat) : Prop := ∃ s t : Nat, N (15 + 8 * i) = Int32.ofNat s ∧ N (15 + 8 * i + 1) = Int32.ofNat t ∧ 10 ≤ s ∧ s ≤ 300 ∧ t ≤ 100
def stageOk (N : Nat → Int32) (i : Nat) : Prop := ∃ k n : Nat, N (191 + 2 * i) = Int32.ofNat k ∧ N (191 + 2 * i + 1) = Int32.ofNat n ∧ k < 3 ∧ 1 ≤ n ∧ n ≤ 99 ∧ (k = 1 → n ≤ 9)
theorem bear_val {N : Nat → Int32} {i s t : Nat} (h1 : N (15 + 8 * i) = Int32.ofNat s) (h2 : N (15 + 8 * i + 1) = Int32.ofNat t) (hs : s ≤ 300) (ht : t ≤ 100) : bearN N i = Int32.ofNat (s * (100 - t) / 100) := by
  have h3 : s * (100 - t) ≤ 300 * 100 := Nat.mul_le_mul hs (by omega)
  rw [bearN, h1, h2, show (100 : Int32) = Int32.ofNat 100 from rfl, i_sub ht, i_mul, i_div (by omega) (by omega)]
theorem bear_ok {N : Nat → Int32} {i : Nat} (h : muleOk N i) : ∃ b : Nat, bearN N i = Int32.ofNat b ∧ b ≤ 300 := by
  obtain ⟨s, t, h1, h2, h3, h4, h5⟩ := h
  have h6 : s * (100 - t) ≤ 300 * 100 := Nat.mul_le_mul h4 (by omega)
  exact ⟨_, bear_val h1 h2 h4 h5, by omega⟩
def fordL (N : Nat → Int32) (i : Nat) (depth : Int32) : Int32 := bearN N i * (10 - depth) / 10
theorem ford_ok {N : Nat → Int32} {i n : Nat} (h : muleOk N i) (hn : n ≤ 9) : ∃ b : Nat, fordL N i (Int32.ofNat n) = Int32.ofNat b ∧ b ≤ 300 := by
  obtain ⟨b, h1, h2⟩ := bear_ok h
  have h3 : b * (10 - n) ≤ 300 * 10 := Nat.mul_le_mul h2 (by omega)
  refine ⟨b * (10 - n) / 10, ?_, by omega⟩
  rw [fordL, h1, show (10 : Int32) = Int32.ofNat 10 from rfl, i_sub (by omega), i_mul, i_div (by omega) (by omega)]
def wetB (kd w : Int32) : Int32 := bif decide (kd = 0) then w / 2 else bif decide (kd = 1) then 3 * w / 4 else w
def brkN (N : Nat → Int32) (m : Int32) : Nat → (Nat → Int32)
  | 0 => N
  | i + 1 => bif isOnB (brkN N m i) m i && decide (brkN N m i (63 + 8 * i) = 3) then upd (countN (brkN N m i) 4 (brkN N m i (63 + 8 * i + 2))) (63 + 8 * i + 2) 0 else brkN N m i
def wet1 (N : Nat → Int32) (i : Nat) : Nat → Int32 := upd (countN (countN N 3 (N (63 + 8 * i + 2) - wetB (N (63 + 8 * i)) (N (63 + 8 * i + 2)))) 6 1) (63 + 8 * i + 2) (wetB (N (63 + 8 * i)) (N (63 + 8 * i + 2)))
def wetN (N : Nat → Int32) (m : Int32) : Nat → (Nat → Int32)
  | 0 => N
  | i + 1 => bif isOnB (wetN N m i) m i then wet1 (wetN N m i) i else wetN N m i
def roadN (N : Nat → Int32) (i S : Nat) (miles : Int32) : Nat → Int32 := shedN (Int32.ofNat i) (bearN (tireN N i (miles * (loadN N (Int32.ofNat i) S * 10 / N (15 + 8 * i) + 1) / 10)) i) S 16 (tireN N i (miles * (loadN N (Int32.ofNat i) S * 10 / N (15 + 8 * i) + 1) / 10))
def fordN1 (N : Nat → Int32) (i S : Nat) (depth : Int32) : Nat → Int32 := bif decide (0 < Int32.ofNat (shedK (Int32.ofNat i) (fordL N i depth) S 16 N)) then brkN (shedN (Int32.ofNat i) (fordL N i depth) S 16 N) (Int32.ofNat i) S else shedN (Int32.ofNat i) (fordL N i depth) S 16 N
def fordN (N : Nat → Int32) (i S : Nat) (depth : Int32) : Nat → Int32 := bif decide (depth < 5) then fordN1 N i S depth else wetN (fordN1 N i S depth) (Int32.ofNat i) S
def passN (N : Nat → Int32) (st i S : Nat) : Nat → Int32 := bif decide (N (191 + 2 * st) = 0) then roadN N i S (N (191 + 2 * st + 1)) else bif decide (N (191 + 2 * st) = 1) then fordN N i S (N (191 + 2 * st + 1)) else tireN N i (-(N 1 * N (191 + 2 * st + 1) / 10))
theorem brkN_at {N : Nat → Int32} {m : Int32} {j : Nat} (h : j < 12 ∨ 12 < j ∧ j < 63) : ∀ i, brkN N m i j = N j := by
  intro i
  induction i with
  | zero => rfl
  | succ i ih =>
    rw [brkN]
    cases isOnB (brkN N m i) m i && decide (brkN N m i (63 + 8 * i) = 3) with
    | false => exact ih
    | true => rw [cond_true, upd_ne (by omega), countN_at (by omega), ih]
theorem wet1_at {N : Nat → Int32} {i j : Nat} (h : j < 11 ∨ 14 < j ∧ j < 63) : wet1 N i j = N j := by
  rw [wet1, upd_ne (by omega), countN_at (by omega), countN_at (by omega)]
theorem wetN_at {N : Nat → Int32} {m : Int32} {j : Nat} (h : j < 11 ∨ 14 < j ∧ j < 63) : ∀ i, wetN N m i j = N j := by
  intro i
  induction i with
  | zero => rfl
  | succ i ih =>
    rw [wetN]
    cases isOnB (wetN N m i) m i with
    | false => exact ih
    | true => rw [cond_true, wet1_at h, ih]
theorem tireN_ok {N : Nat → Int32} {i j : Nat} {more : Int32} (h : muleOk N j) : muleOk (tireN N i more) j := by
  obtain ⟨s, t, h1, h2, h3, h4, h5⟩ := h
  by_cases e : j = i
  · subst e
    have hc : ∀ v, ∃ t : Nat, clampB v = Int32.ofNat t ∧ t ≤ 100 := by
      intro v
      rw [clampB]
      cases ha : decide (v < 0) with
      | true => exact ⟨0, rfl, by omega⟩
      | false =>
        cases hb : decide (100 < v) with
        | true => exact ⟨100, rfl, by omega⟩
        | false =>
          have ha := of_decide_eq_false ha
          have hb := of_decide_eq_false hb
          rw [Int32.lt_iff_toInt_lt] at ha hb
          rw [show (0 : Int32).toInt = 0 from rfl] at ha
          rw [show (100 : Int32).toInt = 100 from rfl] at hb
          refine ⟨v.toInt.toNat, ?_, by omega⟩
          apply Int32.toInt_inj.mp
          rw [i_toInt (by omega)]
          show v.toInt = _
          omega
    obtain ⟨t2, e1, e2⟩ := hc (N (15 + 8 * j + 1) + more)
    exact ⟨s, t2, by rw [tireN, upd_ne (by omega)]; exact h1, by rw [tireN, upd_at]; exact e1, h3, h4, e2⟩
  · exact ⟨s, t, by rw [tireN, upd_ne (by omega)]; exact h1, by rw [tireN, upd_ne (by omega)]; exact h2, h3, h4, h5⟩
theorem muleOk_congr {N N' : Nat → Int32} {j : Nat} (h1 : N' (15 + 8 * j) = N (15 + 8 * j)) (h2 : N' (15 + 8 * j + 1) = N (15 + 8 * j + 1)) (h : muleOk N j) : muleOk N' j := by
  unfold muleOk
  rw [h1, h2]
  exact h
section MDL
variable {RO : List mE} {d sb : Nat} {ext : List sh} {M : mM}
theorem e_fordLimit {i : Nat} {depth : Int32} (hi : i < 6) : EvR RO (d + 3) 157 [.ref 145, .int (Int32.ofNat i), .int depth] (gW sb ext) M (some (.int (fordL (M 149) i depth))) M := by
  refine EvP.wp [] 40 rfl ?_
  refine (e_bears hi).use ?_
  refine ⟨by decide, ?_⟩
  exact ⟨rfl, rfl, rfl, rfl, rfl⟩
theorem e_wetWorth {kd w : Int32} : EvR RO (d + 1) 237 [.int kd, .int w] (gW sb ext) M (some (.int (wetB kd w))) M := by
  refine EvP.wp [] 40 rfl ?_
  refine de_if (fun h => ?_) (fun h => ?_)
  · refine ⟨by decide, ?_⟩
    refine ⟨?_, rfl, rfl, rfl, rfl⟩
    rw [wetB, h]; rfl
  · refine de_if (fun h2 => ?_) (fun h2 => ?_)
    · refine ⟨by decide, ?_⟩
      refine ⟨?_, rfl, rfl, rfl, rfl⟩
      rw [wetB, h, h2]; rfl
    · refine ⟨?_, rfl, rfl, rfl, rfl⟩
      rw [wetB, h, h2]; rfl
theorem e_breaks {S : Nat} {m : Int32} (hS : S ≤ 16) (hN : M 149 4 = Int32.ofNat S) : EvR RO (d + 3) 141 [.ref 145, .int m] (gW sb ext) M none (upM M 149 (brkN (M 149) m S)) := by
  refine EvR.of (fun Q hQ => ?_)
  refine EvP.wp [2] 40 rfl ?_
  have key := up_ind (S := S) (H := fun i => GoP RO (d + 2) 141 [.ref 145, .int m, .int (Int32.ofNat i)] [] (gW sb ext) (upM M 149 (brkN (M 149) m i)) 2 0 0 Q) ?_ (fun i hi ih => ?_) 0 (by omega)
  · rw [show brkN (M 149) m 0 = M 149 from rfl, upM_self] at key
    exact key
  · refine wp_sound [2] 60 _ _ _ _ _ _ _ ?_
    have hN2 : upM M 149 (brkN (M 149) m S) 149 4 = Int32.ofNat S := by rw [upM_at, brkN_at (by omega)]; exact hN
    refine ⟨4, rfl, by omega, ?_⟩
    refine lt_if rfl hN2 (by omega) (by omega) (fun h => absurd h (by omega)) (fun _ => ?_)
    exact hQ
  · refine wp_sound [2] 60 _ _ _ _ _ _ _ ?_
    have hN2 : upM M 149 (brkN (M 149) m i) 149 4 = Int32.ofNat S := by rw [upM_at, brkN_at (by omega)]; exact hN
    refine ⟨4, rfl, by omega, ?_⟩
    refine lt_if rfl hN2 (by omega) (by omega) (fun _ => ?_) (fun h => absurd h (by omega))
    refine (e_isOn (by omega)).use ?_
    refine zb_if (fun h1 => ?_) (fun h1 => ?_)
    · rw [upM_at] at h1
      refine GoP.eq2 ih (by rw [i_inc]) ?_
      rw [brkN, h1]; rfl
    · rw [upM_at] at h1
      refine e_s.use ?_
      refine ⟨63 + 8 * i, i_add _ 0, by omega, ?_⟩
      refine de_if (fun h2 => ?_) (fun h2 => ?_)
      · rw [upM_at] at h2
        refine (e_worthOf (by omega)).use ?_
        refine (e_counts (w := 4) (by omega)).use ?_
        refine e_s.use ?_
        refine ⟨63 + 8 * i + 2, i_add _ 2, by omega, ?_⟩
        refine GoP.eq2 ih (by rw [i_inc]) ?_
        simp only [upM_at, upM_upM]
        rw [brkN, h1, h2]; rfl
      · rw [upM_at] at h2
        refine GoP.eq2 ih (by rw [i_inc]) ?_
        rw [brkN, h1, h2]; rfl
theorem e_wets {S : Nat} {m : Int32} (hS : S ≤ 16) (hN : M 149 4 = Int32.ofNat S) : EvR RO (d + 3) 238 [.ref 145, .int m] (gW sb ext) M none (upM M 149 (wetN (M 149) m S)) := by
  refine EvR.of (fun Q hQ => ?_)
  refine EvP.wp [2] 40 rfl ?_
  have key := up_ind (S := S) (H := fun i => ∀ v : Value, GoP RO (d + 2) 238 [.ref 145, .int m, .int (Int32.ofNat i), v] [] (gW sb ext) (upM M 149 (wetN (M 149) m i)) 2 0 0 Q) ?_ (fun i hi ih => ?_) 0 (by omega)
  · have key := key (.retAddr 0)
    rw [show wetN (M 149) m 0 = M 149 from rfl, upM_self] at key
    exact key
  · intro v
    refine wp_sound [2] 60 _ _ _ _ _ _ _ ?_
    have hN2 : upM M 149 (wetN (M 149) m S) 149 4 = Int32.ofNat S := by rw [upM_at, wetN_at (by omega)]; exact hN
    refine ⟨4, rfl, by omega, ?_⟩
    refine lt_if rfl hN2 (by omega) (by omega) (fun h => absurd h (by omega)) (fun _ => ?_)
    exact hQ
  · intro v
    refine wp_sound [2] 60 _ _ _ _ _ _ _ ?_
    have hN2 : upM M 149 (wetN (M 149) m i) 149 4 = Int32.ofNat S := by rw [upM_at, wetN_at (by omega)]; exact hN
    refine ⟨4, rfl, by omega, ?_⟩
    refine lt_if rfl hN2 (by omega) (by omega) (fun _ => ?_) (fun h => absurd h (by omega))
    refine (e_isOn (by omega)).use ?_
    refine zb_if (fun h1 => ?_) (fun h1 => ?_)
    · rw [upM_at] at h1
      refine GoP.eq2 (ih v) (by rw [i_inc]) ?_
      rw [wetN, h1]; rfl
    · rw [upM_at] at h1
      refine e_s.use ?_
      refine ⟨63 + 8 * i, i_add _ 0, by omega, ?_⟩
      refine (e_worthOf (by omega)).use ?_
      refine e_wetWorth.use ?_
      refine (e_worthOf (by omega)).use ?_
      refine (e_counts (w := 3) (by omega)).use ?_
      refine (e_counts (w := 6) (by omega)).use ?_
      refine e_s.use ?_
      refine ⟨63 + 8 * i + 2, i_add _ 2, by omega, ?_⟩
      refine GoP.eq2 (ih _) (by rw [i_inc]) ?_
      simp only [upM_at, upM_upM]
      rw [wetN, h1]; rfl
theorem e_roads {S i : Nat} {miles : Int32} (hS : S ≤ 16) (hi : i < 6) (hN : M 149 4 = Int32.ofNat S) (hm : muleOk (M 149) i) : EvR RO (d + 6) 210 [.ref 145, .int (Int32.ofNat i), .int miles] (gW sb ext) M none (upM M 149 (roadN (M 149) i S miles)) := by
  refine EvP.wp [] 60 rfl ?_
  refine (e_loadOf hS hN).use ?_
  refine e_m.use ?_
  refine ⟨15 + 8 * i, i_add _ 0, by omega, ?_⟩
  refine ⟨?_, ?_⟩
  · obtain ⟨s, t, h1, h2, h3, h4, h5⟩ := hm
    intro h
    have h : M 149 (15 + 8 * i) = 0 := h
    rw [h1] at h
    have := i_inj (by omega) (by omega) (h.trans (show (0 : Int32) = Int32.ofNat 0 from rfl))
    omega
  refine ⟨by decide, ?_⟩
  refine (e_tires hi).use ?_
  refine (e_bears hi).use ?_
  have hm2 := tireN_ok (i := i) (more := miles * (loadN (M 149) (Int32.ofNat i) S * 10 / M 149 (15 + 8 * i) + 1) / 10) hm
  obtain ⟨b, hb1, hb2⟩ := bear_ok hm2
  refine (e_sheds hS ?_ ?_).use ?_
  · rw [upM_at]
    exact fun h => i_nonneg (a := b) (by omega) (by rw [← hb1]; exact h)
  · rw [upM_at, tireN, upd_ne (by omega)]; exact hN
  · refine ⟨rfl, rfl, ?_, rfl, rfl⟩
    simp only [upM_at, upM_upM]; rfl
theorem e_fords {S i n : Nat} (hS : S ≤ 16) (hi : i < 6) (hN : M 149 4 = Int32.ofNat S) (hm : muleOk (M 149) i) (hn : n ≤ 9) : EvR RO (d + 6) 158 [.ref 145, .int (Int32.ofNat i), .int (Int32.ofNat n)] (gW sb ext) M none (upM M 149 (fordN (M 149) i S (Int32.ofNat n))) := by
  refine EvP.wp [] 60 rfl ?_
  refine (e_fordLimit hi).use ?_
  obtain ⟨b, hb1, hb2⟩ := ford_ok hm hn
  refine (e_sheds hS ?_ hN).use ?_
  · exact fun h => i_nonneg (a := b) (by omega) (by rw [← hb1]; exact h)
  have h4 : shedN (Int32.ofNat i) (fordL (M 149) i (Int32.ofNat n)) S 16 (M 149) 4 = Int32.ofNat S := by rw [shedN_at (by omega)]; exact hN
  refine de_if (fun h1 => ?_) (fun h1 => ?_)
  · refine (e_breaks hS h4).use ?_
    refine de_if (fun h2 => ?_) (fun h2 => ?_)
    · refine ⟨rfl, rfl, ?_, rfl, rfl⟩
      rw [fordN, fordN1, h1, h2]; simp only [upM_at, upM_upM, cond_true]
    · refine (e_wets hS (by rw [upM_at, upM_at, brkN_at (by omega)]; exact h4)).use ?_
      refine ⟨rfl, rfl, ?_, rfl, rfl⟩
      rw [fordN, fordN1, h1, h2]; simp only [upM_at, upM_upM, cond_true, cond_false]
  · refine de_if (fun h2 => ?_) (fun h2 => ?_)
    · refine ⟨rfl, rfl, ?_, rfl, rfl⟩
      rw [fordN, fordN1, h1, h2]; simp only [upM_at, upM_upM, cond_true, cond_false]
    · refine (e_wets hS h4).use ?_
      refine ⟨rfl, rfl, ?_, rfl, rfl⟩
      rw [fordN, fordN1, h1, h2]; simp only [upM_at, upM_upM, cond_true, cond_false]
theorem e_passes {S i st : Nat} (hS : S ≤ 16) (hi : i < 6) (hst : st < 8) (hN : M 149 4 = Int32.ofNat S) (hm : muleOk (M 149) i) (hs : stageOk (M 149) st) : EvR RO (d + 7) 193 [.ref 145, .int (Int32.ofNat st), .int (Int32.ofNat i)] (gW sb ext) M none (upM M 149 (passN (M 149) st i S)) := by
  refine EvP.wp [] 60 rfl ?_
  refine e_t.use ?_
  refine ⟨191 + 2 * st + 1, i_add _ 1, by omega, ?_⟩
  refine e_t.use ?_
  refine ⟨191 + 2 * st, rfl, by omega, ?_⟩
  refine de_if (fun h1 => ?_) (fun h1 => ?_)
  · refine (e_roads hS hi hN hm).use ?_
    refine ⟨rfl, rfl, ?_, rfl, rfl⟩
    rw [passN, h1]; rfl
  · refine de_if (fun h2 => ?_) (fun h2 => ?_)
    · obtain ⟨k, n, e1, e2, e3, e4, e5, e6⟩ := hs
      have hk : k = 1 := by
        have h9 := of_decide_eq_true h2
        rw [e1] at h9
        exact i_inj (by omega) (by omega) h9
      have hf := e_fords (RO := RO) (d := d) (sb := sb) (ext := ext) hS hi hN hm (e6 hk)
      rw [← e2] at hf
      refine hf.use ?_
      refine ⟨rfl, rfl, ?_, rfl, rfl⟩
      rw [passN, h1, h2]; rfl
    · refine ⟨1, rfl, by omega, ?_⟩
      refine ⟨by decide, ?_⟩
      refine (e_tires hi).use ?_
      refine ⟨rfl, rfl, ?_, rfl, rfl⟩
      rw [passN, h1, h2]; rfl
end MDL
