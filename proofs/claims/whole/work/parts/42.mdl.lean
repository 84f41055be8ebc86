/-! what the model writes -/
theorem digs_len2 {n : Nat} (h : n < 100) : (digs n).length ≤ 2 := by
  unfold digs
  split
  · exact (by decide : 1 ≤ 2)
  · exact (by decide : 2 ≤ 2)
theorem sideL_len {N : Nat → Int32} {m sd : Int32} : ∀ k, k ≤ 16 → (sideL N m sd k).length ≤ 3 * k := by
  intro k
  induction k with
  | zero => intro _; exact Nat.le_refl _
  | succ k ih =>
    intro hk
    have h1 := ih (by omega)
    have h2 := digs_len2 (n := k) (by omega)
    rw [sideL]
    cases isOnB N m k && decide (N (63 + 8 * k + 5) = sd) with
    | false => rw [cond_false]; omega
    | true =>
      cases (sideL N m sd k).isEmpty with
      | true => rw [cond_true, cond_true]; omega
      | false => rw [cond_true, cond_false, List.length_append, List.length_cons]; omega
theorem sideL_off {N : Nat → Int32} {m sd : Int32} {k : Nat} (h : (isOnB N m k && decide (N (63 + 8 * k + 5) = sd)) = false) : sideL N m sd (k + 1) = sideL N m sd k := by
  rw [sideL, h]; rfl
theorem sideL_new {N : Nat → Int32} {m sd : Int32} {k : Nat} (h : (isOnB N m k && decide (N (63 + 8 * k + 5) = sd)) = true) (h2 : (sideL N m sd k).isEmpty = true) : sideL N m sd (k + 1) = digs k := by
  rw [sideL, h, h2]; rfl
theorem sideL_more {N : Nat → Int32} {m sd : Int32} {k : Nat} (h : (isOnB N m k && decide (N (63 + 8 * k + 5) = sd)) = true) (h2 : (sideL N m sd k).isEmpty = false) : sideL N m sd (k + 1) = sideL N m sd k ++ 44 :: digs k := by
  rw [sideL, h, h2]; rfl
def nameL (N : Nat → Int32) (i : Nat) : Nat → List Int32
  | 0 => []
  | j + 1 => nameL N i j ++ [N (15 + 8 * i + 2 + j)]
theorem nameL_len {N : Nat → Int32} {i : Nat} : ∀ j, (nameL N i j).length = j := by
  intro j
  induction j with
  | zero => rfl
  | succ j ih => rw [nameL, List.length_append, ih]; rfl
def muleL (N : Nat → Int32) (i S w : Nat) : List Int32 := nameL N i (lettN N i) ++ 58 :: (sideL N (Int32.ofNat i) 0 S ++ 124 :: (sideL N (Int32.ofNat i) 1 S ++ 61 :: digs w))
def outM (M : mM) : mM := upM M 145 (upd (M 145) 15 0)
def wordL (k : Nat) : List Int32 := match k with
  | 0 => [114, 111, 97, 100]
  | 1 => [102, 111, 114, 100]
  | _ => [99, 97, 109, 112]
def wayL (N : Nat → Int32) : Nat → List Int32
  | 0 => []
  | k + 1 => wayL N k ++ ((if 0 < k then [32] else []) ++ (wordL (N (191 + 2 * k)).toNatClampNeg ++ digs (N (191 + 2 * k + 1)).toNatClampNeg))
theorem wordL_len {k : Nat} : (wordL k).length = 4 := by
  unfold wordL
  split <;> rfl
section MDL
variable {RO : List mE} {d sb : Nat} {ext : List sh} {M : mM} {Q : mQ}
theorem e_writesSide {S p : Nat} {m sd : Int32} (hS : S ≤ 16) (hN : M 149 4 = Int32.ofNat S) (hp : p + 48 ≤ 120) (h15 : M 145 15 = Int32.ofNat p) : EvR RO (d + 3) 249 [.ref 145, .int m, .int sd] (gW sb ext) M none (wrL M p (sideL (M 149) m sd S)) := by
  refine EvR.of (fun Q hQ => ?_)
  refine EvP.wp [5] 40 rfl ?_
  have h149 : ∀ k, wrL M p (sideL (M 149) m sd k) 149 = M 149 := fun k => wrL_q (by decide) (by decide)
  refine up_ind (S := S) (H := fun k => GoP RO (d + 2) 249 [.ref 145, .int m, .int sd, .int (zb (sideL (M 149) m sd k).isEmpty), .int (Int32.ofNat k)] [] (gW sb ext) (wrL M p (sideL (M 149) m sd k)) 5 0 0 Q) ?_ (fun k hk ih => ?_) 0 (by omega)
  · refine wp_sound [5] 60 _ _ _ _ _ _ _ ?_
    refine ⟨4, rfl, by omega, ?_⟩
    refine lt_if rfl (show wrL M p (sideL (M 149) m sd S) 149 4 = Int32.ofNat S by rw [h149]; exact hN) (by omega) (by omega) (fun h => absurd h (by omega)) (fun _ => ?_)
    exact hQ
  · have hl := sideL_len (N := M 149) (m := m) (sd := sd) k (by omega)
    have h2 := digs_len2 (n := k) (by omega)
    refine wp_sound [5] 60 _ _ _ _ _ _ _ ?_
    refine ⟨4, rfl, by omega, ?_⟩
    refine lt_if rfl (show wrL M p (sideL (M 149) m sd k) 149 4 = Int32.ofNat S by rw [h149]; exact hN) (by omega) (by omega) (fun _ => ?_) (fun h => absurd h (by omega))
    refine (e_isOn (M := wrL M p (sideL (M 149) m sd k)) (by omega)).use ?_
    refine zb_if (fun h1 => ?_) (fun h1 => ?_)
    · rw [h149] at h1
      have hs := sideL_off (N := M 149) (m := m) (sd := sd) (k := k) (by rw [h1]; rfl)
      refine GoP.eq2 ih ?_ ?_
      · rw [i_inc, hs]
      · rw [hs]
    · rw [h149] at h1
      refine e_s.use ?_
      refine ⟨63 + 8 * k + 5, i_add _ 5, by omega, ?_⟩
      refine de_if (fun h3 => ?_) (fun h3 => ?_)
      · rw [h149] at h3
        have hb : (isOnB (M 149) m k && decide (M 149 (63 + 8 * k + 5) = sd)) = true := by rw [h1, h3]; rfl
        refine zb_if (fun h4 => ?_) (fun h4 => ?_)
        · have hs := sideL_more hb h4
          refine (e_writes (M := wrL M p (sideL (M 149) m sd k)) (p := p + (sideL (M 149) m sd k).length) (by omega) (wrL_15 h15)).use ?_
          refine (e_writesNumber (M := wr1 (wrL M p (sideL (M 149) m sd k)) (p + (sideL (M 149) m sd k).length) 44) (p := p + (sideL (M 149) m sd k).length + 1) (by omega) (by omega) rfl).use ?_
          refine GoP.eq2 ih ?_ ?_
          · rw [i_inc, hs, show (sideL (M 149) m sd k ++ 44 :: digs k).isEmpty = false by cases sideL (M 149) m sd k <;> rfl]; rfl
          · rw [hs, wrL_app]; rfl
        · have hs := sideL_new hb h4
          refine (e_writesNumber (M := wrL M p (sideL (M 149) m sd k)) (p := p + (sideL (M 149) m sd k).length) (by omega) (by omega) (wrL_15 h15)).use ?_
          refine GoP.eq2 ih ?_ ?_
          · rw [i_inc, hs, digs_ne]; rfl
          · rw [hs, List.isEmpty_iff.mp h4]; rfl
      · rw [h149] at h3
        have hs := sideL_off (N := M 149) (m := m) (sd := sd) (k := k) (by rw [h1, h3]; rfl)
        refine GoP.eq2 ih ?_ ?_
        · rw [i_inc, hs]
        · rw [hs]
theorem e_writeMule {m S : Nat} {v : Int32} (hS : S ≤ 16) (hm : m ≤ 6) (hN : M 149 4 = Int32.ofNat S) (hN3 : M 149 3 = Int32.ofNat m) (h0 : inB v 0 (M 149 3 - 1) = false → Q (.inl (some (.int 0))) (gW sb ext) (thr M 1) 0 0) (h1 : ∀ i, i < m → v = Int32.ofNat i → ∃ w, w < 1000 ∧ loadN (M 149) (Int32.ofNat i) S = Int32.ofNat w ∧ Q (.inl (some (.int (Int32.ofNat (muleL (M 149) i S w).length)))) (gW sb ext) (thr (wrL (outM M) 0 (muleL (M 149) i S w)) 0) 0 0) : EvP RO (d + 5) 245 [.ref 145, .int v] (gW sb ext) M Q := by
  refine EvP.wp [21] 60 rfl ?_
  refine e_isMule.use ?_
  refine zb_if (fun h => ?_) (fun h => ?_)
  · refine e_refuse.use ?_
    exact h0 h
  obtain ⟨i, hi, e⟩ := inB_n (by omega) hN3 h
  subst e
  obtain ⟨w, hw, hwl, hQ⟩ := h1 i hi rfl
  have hln := lettN_le (N := M 149) (i := i)
  have h149 : ∀ l, wrL (outM M) 0 l 149 = M 149 := fun l => wrL_q (by decide) (by decide)
  refine up_ind (S := lettN (M 149) i) (H := fun j => GoP RO (d + 4) 245 [.ref 145, .int (Int32.ofNat i), .int (Int32.ofNat j)] [] (gW sb ext) (wrL (outM M) 0 (nameL (M 149) i j)) 21 0 0 Q) ?_ (fun j hj ih => ?_) 0 (by omega)
  · refine wp_sound [21] 60 _ _ _ _ _ _ _ ?_
    refine (e_lettersOf (M := wrL (outM M) 0 (nameL (M 149) i (lettN (M 149) i))) (by omega)).use ?_
    refine lt_if (b := lettN (M 149) i) rfl (by rw [h149]) (by omega) (by omega) (fun h => absurd h (by omega)) (fun _ => ?_)
    have s0 := sideL_len (N := M 149) (m := Int32.ofNat i) (sd := 0) S hS
    have s1 := sideL_len (N := M 149) (m := Int32.ofNat i) (sd := 1) S hS
    have sw := digs_len (n := w)
    have hn := nameL_len (N := M 149) (i := i) (lettN (M 149) i)
    have q1 : wrL (outM M) 0 (nameL (M 149) i (lettN (M 149) i)) 145 15 = Int32.ofNat (0 + (nameL (M 149) i (lettN (M 149) i)).length) := wrL_15 rfl
    generalize hL1 : nameL (M 149) i (lettN (M 149) i) = l1 at *
    refine (e_writes (M := wrL (outM M) 0 l1) (p := 0 + l1.length) (by omega) q1).use ?_
    have a2 : (wr1 (wrL (outM M) 0 l1) (0 + l1.length) 58) 149 = M 149 := h149 _
    generalize hM2 : wr1 (wrL (outM M) 0 l1) (0 + l1.length) 58 = M2 at *
    have q2 : M2 145 15 = Int32.ofNat (0 + l1.length + 1) := by rw [← hM2]; rfl
    refine (e_writesSide (M := M2) (p := 0 + l1.length + 1) hS (by rw [a2]; exact hN) (by omega) q2).use ?_
    rw [a2]
    have q3 : wrL M2 (0 + l1.length + 1) (sideL (M 149) (Int32.ofNat i) 0 S) 145 15 = _ := wrL_15 q2
    have a3 : wrL M2 (0 + l1.length + 1) (sideL (M 149) (Int32.ofNat i) 0 S) 149 = M 149 := (wrL_q (by decide) (by decide)).trans a2
    generalize hL3 : sideL (M 149) (Int32.ofNat i) 0 S = l3 at *
    refine (e_writes (M := wrL M2 (0 + l1.length + 1) l3) (p := 0 + l1.length + 1 + l3.length) (by omega) q3).use ?_
    have a4 : (wr1 (wrL M2 (0 + l1.length + 1) l3) (0 + l1.length + 1 + l3.length) 124) 149 = M 149 := a3
    generalize hM4 : wr1 (wrL M2 (0 + l1.length + 1) l3) (0 + l1.length + 1 + l3.length) 124 = M4 at *
    have q4 : M4 145 15 = Int32.ofNat (0 + l1.length + 1 + l3.length + 1) := by rw [← hM4]; rfl
    refine (e_writesSide (M := M4) (p := 0 + l1.length + 1 + l3.length + 1) hS (by rw [a4]; exact hN) (by omega) q4).use ?_
    rw [a4]
    have q5 : wrL M4 (0 + l1.length + 1 + l3.length + 1) (sideL (M 149) (Int32.ofNat i) 1 S) 145 15 = _ := wrL_15 q4
    have a5 : wrL M4 (0 + l1.length + 1 + l3.length + 1) (sideL (M 149) (Int32.ofNat i) 1 S) 149 = M 149 := (wrL_q (by decide) (by decide)).trans a4
    generalize hL5 : sideL (M 149) (Int32.ofNat i) 1 S = l5 at *
    refine (e_writes (M := wrL M4 (0 + l1.length + 1 + l3.length + 1) l5) (p := 0 + l1.length + 1 + l3.length + 1 + l5.length) (by omega) q5).use ?_
    have a6 : (wr1 (wrL M4 (0 + l1.length + 1 + l3.length + 1) l5) (0 + l1.length + 1 + l3.length + 1 + l5.length) 61) 149 = M 149 := a5
    generalize hM6 : wr1 (wrL M4 (0 + l1.length + 1 + l3.length + 1) l5) (0 + l1.length + 1 + l3.length + 1 + l5.length) 61 = M6 at *
    have q6 : M6 145 15 = Int32.ofNat (0 + l1.length + 1 + l3.length + 1 + l5.length + 1) := by rw [← hM6]; rfl
    refine (e_loadOf (M := M6) hS (by rw [a6]; exact hN)).use ?_
    rw [a6, hwl]
    refine (e_writesNumber (M := M6) (p := 0 + l1.length + 1 + l3.length + 1 + l5.length + 1) (by omega) hw q6).use ?_
    refine e_told.use ?_
    have q7 : wrL M6 (0 + l1.length + 1 + l3.length + 1 + l5.length + 1) (digs w) 145 15 = _ := wrL_15 q6
    refine Q_of hQ ?_ ?_
    · show some (Value.int (wrL M6 (0 + l1.length + 1 + l3.length + 1 + l5.length + 1) (digs w) 145 15)) = _
      rw [q7, muleL, hL1, hL3, hL5]
      simp only [List.length_append, List.length_cons]
      congr 3; omega
    · rw [muleL, hL1, hL3, hL5, wrL_app, wrL, hM2, wrL_app, wrL, hM4, wrL_app, wrL, hM6]
  · refine wp_sound [21] 60 _ _ _ _ _ _ _ ?_
    refine (e_lettersOf (M := wrL (outM M) 0 (nameL (M 149) i j)) (by omega)).use ?_
    refine lt_if (b := lettN (M 149) i) rfl (by rw [h149]) (by omega) (by omega) (fun _ => ?_) (fun h => absurd h (by omega))
    refine e_m.use ?_
    refine ⟨15 + 8 * i + 2 + j, ?_, by omega, ?_⟩
    · show Int32.ofNat (15 + 8 * i) + Int32.ofNat 2 + Int32.ofNat j = _
      rw [i_add, i_add]
    have hn := nameL_len (N := M 149) (i := i) j
    refine (e_writes (M := wrL (outM M) 0 (nameL (M 149) i j)) (p := 0 + (nameL (M 149) i j).length) (by omega) (wrL_15 rfl)).use ?_
    refine GoP.eq2 ih (by rw [i_inc]) ?_
    rw [nameL, wrL_app, h149]; rfl
end MDL
