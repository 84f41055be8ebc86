/-! the way written; the best worth -/
theorem wayL_s {N : Nat → Int32} {k kd n : Nat} (h1 : N (191 + 2 * k) = Int32.ofNat kd) (h2 : N (191 + 2 * k + 1) = Int32.ofNat n) (hk : kd < 3) (hn : n < 100) : wayL N (k + 1) = wayL N k ++ ((if 0 < k then [32] else []) ++ (wordL kd ++ digs n)) := by
  rw [wayL, h1, h2, clamp_n (n := 3) hk (by omega), clamp_n (n := 100) hn (by omega)]
theorem wayL_len {N : Nat → Int32} {t : Nat} (h : ∀ i, i < t → stageOk N i) : ∀ k, k ≤ t → (wayL N k).length ≤ 7 * k := by
  intro k
  induction k with
  | zero => intro _; exact Nat.le_refl _
  | succ k ih =>
    intro hk
    obtain ⟨kd, n, h1, h2, h3, h4, h5, h6⟩ := h k (by omega)
    have h7 := ih (by omega)
    have h8 := digs_len2 (n := n) (by omega)
    rw [wayL_s h1 h2 h3 (by omega)]
    simp only [List.length_append, wordL_len]
    by_cases e : 0 < k
    · rw [if_pos e, List.length_singleton]; omega
    · rw [if_neg e, List.length_nil]; omega
/-- the words' letters among the reference's own -/
def keysOk (K : Nat → Int32) : Prop := ∀ kd, kd < 3 → wordL kd = [K (5 * (3 + kd)), K (5 * (3 + kd) + 1), K (5 * (3 + kd) + 2), K (5 * (3 + kd) + 3)] ∧ K (5 * (3 + kd) + 4) = 0 ∧ (∀ x, x < 4 → ¬ K (5 * (3 + kd) + x) = 0)
section MDL
variable {RO : List mE} {d sb : Nat} {ext : List sh} {M : mM} {Q : mQ}
def wrK (M : mM) (p : Nat) (K : Nat → Int32) (b : Nat) : Nat → mM
  | 0 => M
  | x + 1 => wr1 (wrK M p K b x) (p + x) (K (b + x))
theorem wrK_q {M : mM} {p b q : Nat} {K : Nat → Int32} (h1 : q ≠ 145) (h2 : q ≠ 156) : ∀ x, wrK M p K b x q = M q := by
  intro x
  induction x with
  | zero => rfl
  | succ x ih => rw [wrK, wr1, upM_ne h1, upM_ne h2, ih]
theorem wrK_15 {M : mM} {p b : Nat} {K : Nat → Int32} (h : M 145 15 = Int32.ofNat p) : ∀ x, wrK M p K b x 145 15 = Int32.ofNat (p + x) := by
  intro x
  cases x with
  | zero => exact h
  | succ x => rfl
theorem way_word {M1 : mM} {p kd n k : Nat} {v2 v3 : Value} (hkd : kd < 3) (hd : (digs n).length ≤ 2) (hn : n < 100) (hk : k < 8) (h1 : M1 149 (191 + 2 * k) = Int32.ofNat kd) (h2 : M1 149 (191 + 2 * k + 1) = Int32.ofNat n) (w1 : wordL kd = [M1 148 (5 * (3 + kd)), M1 148 (5 * (3 + kd) + 1), M1 148 (5 * (3 + kd) + 2), M1 148 (5 * (3 + kd) + 3)]) (w2 : M1 148 (5 * (3 + kd) + 4) = 0) (w3 : ∀ x, x < 4 → ¬ M1 148 (5 * (3 + kd) + x) = 0) (a3 : M1 145 15 = Int32.ofNat p) (hp : p + 6 ≤ 120) (hQ : GoP RO (d + 2) 246 [.ref 145, .int (Int32.ofNat (k + 1)), .int (Int32.ofNat (5 * (3 + kd))), .int (Int32.ofNat 4)] [] (gW sb ext) (wrL M1 p (wordL kd ++ digs n)) 7 0 0 Q) : GoP RO (d + 2) 246 [.ref 145, .int (Int32.ofNat k), v2, v3] [] (gW sb ext) M1 27 0 0 Q := by
  have hw : ∀ x : Nat, Int32.ofNat (5 * (3 + kd)) + Int32.ofNat x = Int32.ofNat (5 * (3 + kd) + x) := fun x => i_add _ x
  refine wp_sound [7, 43] 60 _ _ _ _ _ _ _ ?_
  refine e_t.use ?_
  refine ⟨191 + 2 * k, rfl, by omega, ?_⟩
  have key := up_ind (S := 4) (H := fun x => GoP RO (d + 2) 246 [.ref 145, .int (Int32.ofNat k), .int (Int32.ofNat (5 * (3 + kd))), .int (Int32.ofNat x)] [] (gW sb ext) (wrK M1 p (M1 148) (5 * (3 + kd)) x) 43 0 0 Q) ?_ (fun x hx ih => ?_) 0 (by omega)
  · refine GoP.eq2 key ?_ rfl
    rw [h1, show (5 : Int32) = Int32.ofNat 5 from rfl, show (3 : Int32) = Int32.ofNat 3 from rfl, i_add, i_mul]; rfl
  · have b1 : wrK M1 p (M1 148) (5 * (3 + kd)) 4 149 = M1 149 := wrK_q (by decide) (by decide) 4
    have b2 : wrK M1 p (M1 148) (5 * (3 + kd)) 4 148 = M1 148 := wrK_q (by decide) (by decide) 4
    have b3 : wrK M1 p (M1 148) (5 * (3 + kd)) 4 145 15 = Int32.ofNat (p + 4) := wrK_15 a3 4
    have b4 : wrL (wrK M1 p (M1 148) (5 * (3 + kd)) 4) (p + 4) (digs n) = wrL M1 p (wordL kd ++ digs n) := by
      rw [wrL_app, w1]; rfl
    generalize wrK M1 p (M1 148) (5 * (3 + kd)) 4 = M2 at *
    refine wp_sound [7, 43] 60 _ _ _ _ _ _ _ ?_
    refine ⟨fun _ => ?_, fun h => absurd (by decide) h⟩
    refine ⟨5 * (3 + kd) + 4, hw 4, by omega, ?_⟩
    rw [b2]
    refine ⟨fun _ => ?_, fun h => absurd w2 h⟩
    refine e_t.use ?_
    refine ⟨191 + 2 * k + 1, i_add _ 1, by omega, ?_⟩
    rw [b1, h2]
    refine (e_writesNumber (M := M2) (p := p + 4) (by omega) (by omega) b3).use ?_
    refine GoP.eq2 hQ (by rw [i_inc]) ?_
    exact b4
  · have b2 : wrK M1 p (M1 148) (5 * (3 + kd)) x 148 = M1 148 := wrK_q (by decide) (by decide) x
    have b3 : wrK M1 p (M1 148) (5 * (3 + kd)) x 145 15 = Int32.ofNat (p + x) := wrK_15 a3 x
    refine wp_sound [7, 43] 60 _ _ _ _ _ _ _ ?_
    refine lt_if (b := 5) rfl rfl (by omega) (by omega) (fun _ => ?_) (fun h => absurd h (by omega))
    refine ⟨5 * (3 + kd) + x, hw x, by omega, ?_⟩
    rw [b2]
    refine ⟨fun h => absurd h (w3 x hx), fun _ => ?_⟩
    refine ⟨5 * (3 + kd) + x, hw x, by omega, ?_⟩
    rw [b2]
    refine (e_writes (M := wrK M1 p (M1 148) (5 * (3 + kd)) x) (p := p + x) (by omega) b3).use ?_
    refine GoP.eq2 ih (by rw [i_inc]) rfl
theorem e_writeWay {m S t : Nat} (h : rowOk (M 149) m S t) (hK : keysOk (M 148)) (hQ : Q (.inl (some (.int (Int32.ofNat (wayL (M 149) t).length)))) (gW sb ext) (thr (wrL (outM M) 0 (wayL (M 149) t)) 0) 0 0) : EvP RO (d + 3) 246 [.ref 145] (gW sb ext) M Q := by
  have ht := h.2.2.2.2.2.1
  refine EvP.wp [7] 60 rfl ?_
  have h149 : ∀ l, wrL (outM M) 0 l 149 = M 149 := fun l => wrL_q (by decide) (by decide)
  have h148 : ∀ l, wrL (outM M) 0 l 148 = M 148 := fun l => wrL_q (by decide) (by decide)
  refine up_ind (S := t) (H := fun k => ∀ v2 v3 : Value, GoP RO (d + 2) 246 [.ref 145, .int (Int32.ofNat k), v2, v3] [] (gW sb ext) (wrL (outM M) 0 (wayL (M 149) k)) 7 0 0 Q) (fun v2 v3 => ?_) (fun k hk ih v2 v3 => ?_) 0 (by omega) _ _
  · refine wp_sound [7] 60 _ _ _ _ _ _ _ ?_
    refine ⟨5, rfl, by omega, ?_⟩
    refine lt_if rfl (show wrL (outM M) 0 (wayL (M 149) t) 149 5 = Int32.ofNat t by rw [h149]; exact h.2.2.1) (by omega) (by omega) (fun h => absurd h (by omega)) (fun _ => ?_)
    refine e_told.use ?_
    refine Q_of hQ ?_ rfl
    show some (Value.int (wrL (outM M) 0 (wayL (M 149) t) 145 15)) = _
    rw [wrL_15 (p := 0) rfl, Nat.zero_add]
  · obtain ⟨kd, n, h1, h2, h3, h4, h5, h6⟩ := h.2.2.2.2.2.2.2 k hk
    have hl := wayL_len h.2.2.2.2.2.2.2 k (by omega)
    have hd := digs_len2 (n := n) (by omega)
    have hs := wayL_s h1 h2 h3 (by omega)
    obtain ⟨w1, w2, w3⟩ := hK kd h3
    have tail : ∀ (M1 : mM) (p : Nat), M1 149 = M 149 → M1 148 = M 148 → M1 145 15 = Int32.ofNat p → p + 6 ≤ 120 → wrL M1 p (wordL kd ++ digs n) = wrL (outM M) 0 (wayL (M 149) (k + 1)) → GoP RO (d + 2) 246 [.ref 145, .int (Int32.ofNat k), v2, v3] [] (gW sb ext) M1 27 0 0 Q := by
      intro M1 p a1 a2 a3 hp a4
      refine way_word (M1 := M1) (p := p) (kd := kd) (n := n) h3 hd (by omega) (by omega) (by rw [a1]; exact h1) (by rw [a1]; exact h2) (by rw [a2]; exact w1) (by rw [a2]; exact w2) (fun x hx => by rw [a2]; exact w3 x hx) a3 hp ?_
      rw [a4]
      exact ih _ _
    have q1 : wrL (outM M) 0 (wayL (M 149) k) 145 15 = Int32.ofNat (0 + (wayL (M 149) k).length) := wrL_15 rfl
    refine wp_sound [7, 27] 60 _ _ _ _ _ _ _ ?_
    refine ⟨5, rfl, by omega, ?_⟩
    refine lt_if rfl (show wrL (outM M) 0 (wayL (M 149) k) 149 5 = Int32.ofNat t by rw [h149]; exact h.2.2.1) (by omega) (by omega) (fun _ => ?_) (fun h => absurd h (by omega))
    refine lt_if (a := 0) rfl rfl (by omega) (by omega) (fun h7 => ?_) (fun h7 => ?_)
    · refine (e_writes (M := wrL (outM M) 0 (wayL (M 149) k)) (p := 0 + (wayL (M 149) k).length) (by omega) q1).use ?_
      refine tail (wr1 (wrL (outM M) 0 (wayL (M 149) k)) (0 + (wayL (M 149) k).length) 32) (0 + (wayL (M 149) k).length + 1) (h149 _) (h148 _) rfl (by omega) ?_
      rw [hs, if_pos h7]
      exact (wrL_app (l := wayL (M 149) k) (l' := [32] ++ (wordL kd ++ digs n)) (M := outM M) (p := 0)).symm
    · refine tail (wrL (outM M) 0 (wayL (M 149) k)) (0 + (wayL (M 149) k).length) (h149 _) (h148 _) q1 (by omega) ?_
      rw [hs, if_neg (by omega)]
      exact (wrL_app (l := wayL (M 149) k) (M := outM M) (p := 0)).symm
theorem e_bestWorth {m S : Nat} {v : Int32} (hS : S ≤ 16) (hm : m ≤ 6) (hN : M 149 4 = Int32.ofNat S) (hN3 : M 149 3 = Int32.ofNat m) (hW : weightOk (M 149) S) (h0 : inB v 0 (M 149 3 - 1) = false → Q (.inl (some (.int 0))) (gW sb ext) (thr M 1) 0 0) (h1 : ∀ i, i < m → v = Int32.ofNat i → ∃ r, r ≤ 300 ∧ bearN (M 149) i - loadN (M 149) (Int32.ofNat i) S = Int32.ofNat r ∧ Q (.inl (some (.int (dpN (M 149) (zeroF (M 154) (r + 1)) r S r)))) (gW sb ext) (thr (upM M 154 (dpN (M 149) (zeroF (M 154) (r + 1)) r S)) 0) 0 0) : EvP RO (d + 5) 140 [.ref 145, .int v] (gW sb ext) M Q := by
  refine EvP.wp [28, 48, 88] 60 rfl ?_
  refine e_isMule.use ?_
  refine zb_if (fun h => ?_) (fun h => ?_)
  · refine e_refuse.use ?_
    exact h0 h
  obtain ⟨i, hi, e⟩ := inB_n (by omega) hN3 h
  subst e
  obtain ⟨r, hr, hrl, hQ⟩ := h1 i hi rfl
  refine (e_bears (by omega)).use ?_
  refine (e_loadOf hS hN).use ?_
  -- the sacks
  have sacks : ∀ k, k ≤ S → ∀ v4 v5 v6 : Value, GoP RO (d + 4) 140 [.ref 145, .int (Int32.ofNat i), .int (Int32.ofNat r), .int (Int32.ofNat k), v4, v5, v6] [] (gW sb ext) (upM M 154 (dpN (M 149) (zeroF (M 154) (r + 1)) r k)) 48 0 0 Q := by
    refine up_ind (S := S) (H := fun k => ∀ v4 v5 v6 : Value, GoP RO (d + 4) 140 [.ref 145, .int (Int32.ofNat i), .int (Int32.ofNat r), .int (Int32.ofNat k), v4, v5, v6] [] (gW sb ext) (upM M 154 (dpN (M 149) (zeroF (M 154) (r + 1)) r k)) 48 0 0 Q) (fun v4 v5 v6 => ?_) (fun k hk ih v4 v5 v6 => ?_)
    · refine wp_sound [28, 48, 88] 60 _ _ _ _ _ _ _ ?_
      refine ⟨4, rfl, by omega, ?_⟩
      refine lt_if rfl hN (by omega) (by omega) (fun h => absurd h (by omega)) (fun _ => ?_)
      refine ⟨r, rfl, by omega, ?_⟩
      refine e_told.use ?_
      exact hQ
    · obtain ⟨w, hw1, hw2, hw3⟩ := hW k hk
      have hcl : (M 149 (63 + 8 * k + 1)).toNatClampNeg = w := by rw [hw1, clamp_n (n := 100) (by omega) (by omega)]
      have out : dpN (M 149) (zeroF (M 154) (r + 1)) r (k + 1) = dpN (M 149) (zeroF (M 154) (r + 1)) r k → ∀ x, r < x → x < 1000 → ∀ v6 : Value, GoP RO (d + 4) 140 [.ref 145, .int (Int32.ofNat i), .int (Int32.ofNat r), .int (Int32.ofNat k), .int (Int32.ofNat x), .int (Int32.ofNat r), v6] [] (gW sb ext) (upM M 154 (dpN (M 149) (zeroF (M 154) (r + 1)) r k)) 88 0 0 Q := by
        intro hs x hx hx2 v6
        refine wp_sound [28, 48, 88] 60 _ _ _ _ _ _ _ ?_
        refine lt_if rfl rfl (by omega) (by omega) (fun _ => ?_) (fun h => absurd h (by omega))
        refine GoP.eq2 (ih _ _ _) (by rw [i_inc]) ?_
        rw [hs]
      refine wp_sound [28, 48, 88] 60 _ _ _ _ _ _ _ ?_
      refine ⟨4, rfl, by omega, ?_⟩
      refine lt_if rfl hN (by omega) (by omega) (fun _ => ?_) (fun h => absurd h (by omega))
      refine e_s.use ?_
      refine ⟨63 + 8 * k + 3, i_add _ 3, by omega, ?_⟩
      refine de_if (fun h2 => ?_) (fun h2 => ?_)
      · refine (e_weightOf (M := upM M 154 (dpN (M 149) (zeroF (M 154) (r + 1)) r k)) (by omega)).use ?_
        rw [show (upM M 154 (dpN (M 149) (zeroF (M 154) (r + 1)) r k)) 149 (63 + 8 * k + 1) = Int32.ofNat w from hw1]
        by_cases hwr : w ≤ r
        · have hs : dpN (M 149) (zeroF (M 154) (r + 1)) r (k + 1) = dpF (dpN (M 149) (zeroF (M 154) (r + 1)) r k) w (M 149 (63 + 8 * k + 2)) r w := by
            rw [dpN, show decide (M 149 (63 + 8 * k + 3) = 0) = true from h2, hcl, Nat.ble_eq_true_of_le hwr]; rfl
          generalize hO : dpN (M 149) (zeroF (M 154) (r + 1)) r k = O at *
          have key : ∀ n, n + w ≤ r + 1 → ∀ v6 : Value, GoP RO (d + 4) 140 [.ref 145, .int (Int32.ofNat i), .int (Int32.ofNat r), .int (Int32.ofNat k), .int (Int32.ofNat w), .int (Int32.ofNat (w + n) + -1), v6] [] (gW sb ext) (upM M 154 (dpF O w (M 149 (63 + 8 * k + 2)) r (w + n))) 88 0 0 Q := by
            intro n
            induction n with
            | zero =>
              intro _ v6
              rw [show Int32.ofNat (w + 0) + -1 = Int32.ofNat (w - 1) by rw [show w + 0 = w - 1 + 1 by omega, i_dec]]
              refine wp_sound [28, 48, 88] 60 _ _ _ _ _ _ _ ?_
              refine lt_if rfl rfl (by omega) (by omega) (fun _ => ?_) (fun h => absurd h (by omega))
              refine GoP.eq2 (ih _ _ _) (by rw [i_inc]) ?_
              rw [hs]; rfl
            | succ n ih2 =>
              intro hn v6
              rw [show Int32.ofNat (w + (n + 1)) + -1 = Int32.ofNat (w + n) by rw [show w + (n + 1) = w + n + 1 by omega, i_dec]]
              refine wp_sound [28, 48, 88] 60 _ _ _ _ _ _ _ ?_
              refine lt_if rfl rfl (by omega) (by omega) (fun h => absurd h (by omega)) (fun _ => ?_)
              refine ⟨w + n - w, i_sub (by omega), by omega, ?_⟩
              refine (e_worthOf (M := upM M 154 (dpF O w (M 149 (63 + 8 * k + 2)) r (w + (n + 1)))) (by omega)).use ?_
              refine ⟨w + n, rfl, by omega, ?_⟩
              have hst := dpF_s (O := O) (w := w) (room := r) (u := w + n) (v := M 149 (63 + 8 * k + 2)) hw2 (by omega) (by omega)
              refine de_if (fun h3 => ?_) (fun h3 => ?_)
              · refine ⟨w + n, rfl, by omega, ?_⟩
                refine GoP.eq2 (ih2 (by omega) _) rfl ?_
                rw [← hst, mxB, show decide (dpF O w (M 149 (63 + 8 * k + 2)) r (w + n + 1) (w + n) < dpF O w (M 149 (63 + 8 * k + 2)) r (w + n + 1) (w + n - w) + M 149 (63 + 8 * k + 2)) = true from h3, upM_upM]; rfl
              · refine ⟨w + n, rfl, by omega, ?_⟩
                refine ⟨w + n, rfl, by omega, ?_⟩
                refine GoP.eq2 (ih2 (by omega) _) rfl ?_
                rw [← hst, mxB, show decide (dpF O w (M 149 (63 + 8 * k + 2)) r (w + n + 1) (w + n) < dpF O w (M 149 (63 + 8 * k + 2)) r (w + n + 1) (w + n - w) + M 149 (63 + 8 * k + 2)) = false from h3, upM_upM]; rfl
          refine GoP.eq2 (key (r + 1 - w) (by omega) v6) ?_ ?_
          · rw [show w + (r + 1 - w) = r + 1 by omega, i_dec]
          · rw [show w + (r + 1 - w) = r + 1 by omega, dpF_0]
        · have hs : dpN (M 149) (zeroF (M 154) (r + 1)) r (k + 1) = dpN (M 149) (zeroF (M 154) (r + 1)) r k := by
            rw [dpN, hcl, show Nat.ble w r = false from by
              cases hb : Nat.ble w r with
              | false => rfl
              | true => exact absurd (Nat.le_of_ble_eq_true hb) hwr, Bool.and_false]; rfl
          exact GoP.eq2 (out hs w (by omega) (by omega) _) rfl rfl
      · have hs : dpN (M 149) (zeroF (M 154) (r + 1)) r (k + 1) = dpN (M 149) (zeroF (M 154) (r + 1)) r k := by
          rw [dpN, show decide (M 149 (63 + 8 * k + 3) = 0) = false from h2]; rfl
        refine GoP.eq2 (out hs (r + 1) (by omega) (by omega) v6) ?_ rfl
        rw [← i_inc]
  have zero := up_ind (S := r + 1) (H := fun k => GoP RO (d + 4) 140 [.ref 145, .int (Int32.ofNat i), .int (Int32.ofNat r), .int (Int32.ofNat k), .retAddr 0, .retAddr 0, .retAddr 0] [] (gW sb ext) (upM M 154 (zeroF (M 154) k)) 28 0 0 Q) ?_ (fun k hk ih => ?_) 0 (by omega)
  · rw [zeroF_0, upM_self] at zero
    refine GoP.eq2 zero ?_ rfl
    rw [← hrl]; rfl
  · refine wp_sound [28, 48, 88] 60 _ _ _ _ _ _ _ ?_
    refine gt_if rfl rfl (by omega) (by omega) (fun _ => ?_) (fun h => absurd h (by omega))
    exact sacks 0 (by omega) _ _ _
  · refine wp_sound [28, 48, 88] 60 _ _ _ _ _ _ _ ?_
    refine gt_if rfl rfl (by omega) (by omega) (fun h => absurd h (by omega)) (fun _ => ?_)
    refine ⟨k, rfl, by omega, ?_⟩
    refine GoP.eq2 ih (by rw [i_inc]) ?_
    rw [← zeroF_s, upM_upM, upM_at]
end MDL
