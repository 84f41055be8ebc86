/-! best worth: the class's table -/
section QRY
variable {RO : List mE} {d sb : Nat} {ext : List sh} {M : mM} {Q : mQ} {m S t : Nat} {N : Nat → Int32}
theorem c_offer {w r : Nat} {v : Int32} (hw : 1 ≤ w) (hw9 : w ≤ 99) (hr : r ≤ 300) : EvR RO (d + 1) 103 [.ref 0, .int (Int32.ofNat w), .int v, .int (Int32.ofNat r)] (gW sb ext) M none (upM M 144 (bif Nat.ble w r then dpF (M 144) w v r w else M 144)) := by
  refine EvR.of (fun Q hQ => ?_)
  cases hb : Nat.ble w r with
  | true =>
    have hwr := Nat.le_of_ble_eq_true hb
    rw [hb, cond_true] at hQ
    have key : ∀ n, n + w ≤ r + 1 → GoP RO d 103 [.ref 0, .int (Int32.ofNat w), .int v, .int (Int32.ofNat r), .int (Int32.ofNat (w + n) + -1)] [] (gW sb ext) (upM M 144 (dpF (M 144) w v r (w + n))) 15 0 0 Q := by
      intro n
      induction n with
      | zero =>
        intro _
        rw [show Int32.ofNat (w + 0) + -1 = Int32.ofNat (w - 1) by rw [show w + 0 = w - 1 + 1 by omega, i_dec]]
        refine wp_sound [15] 60 _ _ _ _ _ _ _ ?_
        refine lt_if (a := w - 1) (b := w) rfl rfl (by omega) (by omega) (fun _ => ?_) (fun h => absurd h (by omega))
        exact hQ
      | succ n ih =>
        intro hn
        rw [show Int32.ofNat (w + (n + 1)) + -1 = Int32.ofNat (w + n) by rw [show w + (n + 1) = w + n + 1 by omega, i_dec]]
        refine wp_sound [15] 60 _ _ _ _ _ _ _ ?_
        refine lt_if (a := w + n) (b := w) rfl rfl (by omega) (by omega) (fun h => absurd h (by omega)) (fun _ => ?_)
        refine ⟨w + n, rfl, by omega, ?_⟩
        refine ⟨w + n - w, i_sub (by omega), by omega, ?_⟩
        refine ⟨w + n, rfl, by omega, ?_⟩
        have hst := dpF_s (O := M 144) (w := w) (room := r) (u := w + n) (v := v) hw (by omega) (by omega)
        refine GoP.eq2 (ih (by omega)) rfl ?_
        rw [← hst, upM_upM, upM_at, mxB]
        have hmx : ∀ a b : Int32, (if b < a then a else b) = bif decide (b < a) then a else b := fun a b => by
          by_cases h : b < a
          · rw [if_pos h, decide_eq_true h]; rfl
          · rw [if_neg h, decide_eq_false h]; rfl
        rw [← hmx]; rfl
    refine EvP.wp [15] 60 rfl ?_
    refine nn_if rfl (by omega) ?_
    refine gt_if (a := r) (b := 300) rfl rfl (by omega) (by omega) (fun h => absurd h (by omega)) (fun _ => ?_)
    refine GoP.eq2 (key (r + 1 - w) (by omega)) ?_ ?_
    · rw [show w + (r + 1 - w) = r + 1 by omega, i_dec]; rfl
    · rw [show w + (r + 1 - w) = r + 1 by omega, dpF_0, upM_self]
  | false =>
    have hwr : r < w := by
      rcases Nat.lt_or_ge r w with h | h
      · exact h
      · rw [Nat.ble_eq_true_of_le h] at hb; cases hb
    rw [hb, cond_false, upM_self] at hQ
    refine EvP.wp [15] 60 rfl ?_
    refine nn_if rfl (by omega) ?_
    refine gt_if (a := r) (b := 300) rfl rfl (by omega) (by omega) (fun h => absurd h (by omega)) (fun _ => ?_)
    refine wp_sound [15] 60 _ _ _ _ _ _ _ ?_
    refine lt_if (a := r) (b := w) rfl rfl (by omega) (by omega) (fun _ => ?_) (fun h => absurd h (by omega))
    exact hQ
theorem min_300 {r : Nat} (hr : r ≤ 300) : (if (300 : Int32) < Int32.ofNat r then (300 : Int32) else Int32.ofNat r) = Int32.ofNat r := by
  rw [if_neg]
  rw [show (300 : Int32) = Int32.ofNat 300 from rfl, i_lt (by omega) (by omega)]
  omega
def loadsOk (N : Nat → Int32) (m S : Nat) : Prop := ∀ i, i < m → ∃ a c, loadN N (Int32.ofNat i) S = Int32.ofNat a ∧ bearN N i = Int32.ofNat c ∧ a ≤ c ∧ c ≤ 300
theorem q_bestWorth {v : Int32} (hT : TrN M 12 N m S t) (hI : invN N m S t) (hL : loadsOk N m S) (hQ : qQ Q (gW sb ext) M (u_bestWorth N S v)) : EvP RO (d + 7) 83 [.ref 0, .int v] (gW sb ext) M Q := by
  have hm := hT.1.2.2.2.1
  have hS := hT.1.2.2.2.2.1
  have e3 := hT.1.1
  have hu := hT.2.2.2.1.2
  have huS := hT.2.2.1.2
  rw [u_bestWorth] at hQ
  refine EvP.wp [31, 51] 60 rfl ?_
  refine EvP.wp [] 60 rfl ?_
  refine ⟨fun h0 => ?_, fun h0 => ?_⟩
  · rw [inB_out (by omega) e3 (Or.inl h0)] at hQ
    exact qQ_no hQ (by decide) (by decide)
  refine ⟨fun h1 => ?_, fun h1 => ?_⟩
  rotate_left
  · rw [hu] at h1
    rw [inB_out (by omega) e3 (Or.inr h1)] at hQ
    exact qQ_no hQ (by decide) (by decide)
  rw [hu] at h1
  obtain ⟨i, hi, rfl⟩ := nat_lt (by omega) h0 h1
  obtain ⟨a, c, l1, l2, l3, l4⟩ := hL i hi
  have hr : bearN N i - loadN N (Int32.ofNat i) S = Int32.ofNat (c - a) := by rw [l1, l2, i_sub l3]
  rw [inB_in (by omega) e3 hi rfl, cond_true, roomN, clamp_nn (by omega), hr, clamp_nn (by omega)] at hQ
  generalize hrr : c - a = r at *
  have hr3 : r ≤ 300 := by omega
  refine (c_bearing bas_12 hT hi).use ?_
  refine (c_loadOn bas_12 hT hI.2.1 (by omega)).use ?_
  have hT' : ∀ F, TrN (upM M 144 F) 12 N m S t := fun F => hT
  have sacks : ∀ Q' : mQ, Q' (.inl (some (.int (dpN N (zeroF (M 144) (r + 1)) r S r)))) (gW sb ext) (upM M 144 (dpN N (zeroF (M 144) (r + 1)) r S)) 0 0 → GoP RO (d + 6) 83 [.ref 0, .int (Int32.ofNat i), .int (Int32.ofNat r), .int 0] [] (gW sb ext) (upM M 144 (zeroF (M 144) (r + 1))) 51 0 0 Q' := by
    intro Q' hQ'
    refine up_ind (S := S) (H := fun k => GoP RO (d + 6) 83 [.ref 0, .int (Int32.ofNat i), .int (Int32.ofNat r), .int (Int32.ofNat k)] [] (gW sb ext) (upM M 144 (dpN N (zeroF (M 144) (r + 1)) r k)) 51 0 0 Q') ?_ (fun k hk ih => ?_) 0 (by omega)
    · refine wp_sound [31, 51] 60 _ _ _ _ _ _ _ ?_
      refine lt_if rfl huS (by omega) (by omega) (fun h => absurd h (by omega)) (fun _ => ?_)
      refine nn_if rfl (by omega) ?_
      refine ⟨r, rfl, by omega, ?_⟩
      exact hQ'
    · obtain ⟨w, w1, w2, w3⟩ := hI.2.2.1 k hk
      have at3 := fun d => c_atS (RO := RO) (d := d) (GG := gW sb ext) (c := 3) bas_12 (hT' (dpN N (zeroF (M 144) (r + 1)) r k)) hk (by omega)
      have at1 := fun d => c_atS (RO := RO) (d := d) (GG := gW sb ext) (c := 1) bas_12 (hT' (dpN N (zeroF (M 144) (r + 1)) r k)) hk (by omega)
      have at2 := fun d => c_atS (RO := RO) (d := d) (GG := gW sb ext) (c := 2) bas_12 (hT' (dpN N (zeroF (M 144) (r + 1)) r k)) hk (by omega)
      simp only [w1] at at1
      have hof := fun d => c_offer (RO := RO) (d := d) (sb := sb) (ext := ext) (M := upM M 144 (dpN N (zeroF (M 144) (r + 1)) r k)) (v := N (63 + 8 * k + 2)) w2 w3 hr3
      rw [dpN, w1, clamp_nn (by omega)] at ih
      refine wp_sound [31, 51] 60 _ _ _ _ _ _ _ ?_
      refine lt_if rfl huS (by omega) (by omega) (fun _ => ?_) (fun h => absurd h (by omega))
      refine (at3 _).use ?_
      refine de_if (fun h => ?_) (fun h => ?_)
      · rw [show decide (N (63 + 8 * k + 3) = 0) = true from h, Bool.true_and] at ih
        refine (at1 _).use ?_
        refine (at2 _).use ?_
        refine (hof _).use ?_
        refine GoP.eq2 ih (by rw [i_inc]) ?_
        rw [upM_upM, upM_at]
      · rw [show decide (N (63 + 8 * k + 3) = 0) = false from h, Bool.false_and] at ih
        refine GoP.eq2 ih (by rw [i_inc]) rfl
  have zero : ∀ Q' : mQ, Q' (.inl (some (.int (dpN N (zeroF (M 144) (r + 1)) r S r)))) (gW sb ext) (upM M 144 (dpN N (zeroF (M 144) (r + 1)) r S)) 0 0 → GoP RO (d + 6) 83 [.ref 0, .int (Int32.ofNat i), .int (Int32.ofNat r), .int 0] [] (gW sb ext) M 31 0 0 Q' := by
    intro Q' hQ'
    have z0 := up_ind (S := r + 1) (H := fun k => GoP RO (d + 6) 83 [.ref 0, .int (Int32.ofNat i), .int (Int32.ofNat r), .int (Int32.ofNat k)] [] (gW sb ext) (upM M 144 (zeroF (M 144) k)) 31 0 0 Q') ?_ (fun k hk ih => ?_) 0 (by omega)
    · rw [zeroF_0, upM_self] at z0
      exact z0
    · refine wp_sound [31, 51] 60 _ _ _ _ _ _ _ ?_
      refine gt_if (a := r + 1) (b := r) rfl rfl (by omega) (by omega) (fun _ => ?_) (fun h => absurd h (by omega))
      exact sacks Q' hQ'
    · refine wp_sound [31, 51] 60 _ _ _ _ _ _ _ ?_
      refine gt_if (a := k) (b := r) rfl rfl (by omega) (by omega) (fun h => absurd h (by omega)) (fun _ => ?_)
      refine ⟨k, rfl, by omega, ?_⟩
      refine GoP.eq2 ih (by rw [i_inc]) ?_
      rw [← zeroF_s, upM_upM, upM_at]
  have hdp : dpN N (zeroF (M 144) (r + 1)) r S r = dpN N (fun _ => 0) r S r := dpN_congr (fun j hj => by rw [zeroF, if_pos (by omega)]) S r (Nat.le_refl _)
  rw [← hdp] at hQ
  refine GoP.eq2 (zero _ ?_) (by rw [hr, min_300 hr3]; rfl) rfl
  refine qQ_yes hQ ⟨fun q _ h1 => upM_ne h1, rfl, rfl, rfl⟩
end QRY
