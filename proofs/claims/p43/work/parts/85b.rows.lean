/-! rows for a world of which single places are known -/
section ROWS
variable {RO : List mE} {d k pc c s op nx : Nat} {L st : List Value} {G G2 : List sh} {M : mM} {Q : mQ} {x : List Nat} {v : Value}
theorem wcls_o {ci o : Nat} {fs : List Value} (ho : o < 1000000) (hg : G[o]? = some (.inr (.inl (ci, fs)))) : wcls RO G o = some ci := by
  unfold wcls
  rw [show Nat.blt o 1000000 = true from Nat.ble_eq_true_of_le ho, cond_true, hg]
theorem wrecv_v {ci o n5 : Nat} {as : List Value} (h : wcls RO G o = some ci) : wrecv RO G 0 (.ref o :: as) [n5, ci] = true := by
  unfold wrecv
  simp only [show (Nat.beq 0 1 || Nat.beq 0 3 || Nat.beq 0 5) = false from rfl, show (Nat.beq 0 2 || Nat.beq 0 4) = false from rfl, cond_false, h]
  exact Nat.beq_refl ci
theorem wrecv_u {ci o n5 n6 : Nat} {as : List Value} (h : wcls RO G o = some ci) : wrecv RO G 6 (.ref o :: as) [n5, n6, ci] = true := by
  unfold wrecv
  simp only [show (Nat.beq 6 1 || Nat.beq 6 3 || Nat.beq 6 5) = false from rfl, show (Nat.beq 6 2 || Nat.beq 6 4) = false from rfl, cond_false, h]
  exact Nat.beq_refl ci
theorem wrecv_s {ci o n5 n6 : Nat} {as : List Value} (h : wcls RO G o = some ci) : wrecv RO G 7 (.ref o :: as) [n5, n6, ci] = true := by
  unfold wrecv
  simp only [show (Nat.beq 7 1 || Nat.beq 7 3 || Nat.beq 7 5) = false from rfl, show (Nat.beq 7 2 || Nat.beq 7 4) = false from rfl, cond_false, h]
  exact Nat.beq_refl ci
theorem wrecv_b {ci o n5 n6 n7 n8 : Nat} {as : List Value} (h : wcls RO G o = some ci) : wrecv RO G 8 (.ref o :: as) [n5, n6, n7, n8, ci] = true := by
  unfold wrecv
  simp only [show (Nat.beq 8 1 || Nat.beq 8 3 || Nat.beq 8 5) = false from rfl, show (Nat.beq 8 2 || Nat.beq 8 4) = false from rfl, cond_false, h]
  exact Nat.beq_refl ci
/-- a call, whose receiver is known -/
theorem g_call {mode k9 na z9 n1 n2 n3 n4 : Nat} {r9 : List Nat} (hcd : cd k pc = some (7, op, nx, mode :: k9 :: na :: z9 :: n1 :: n2 :: n3 :: n4 :: r9, v)) (hb : Nat.ble (mna mode na) st.length = true) (hr : mcs (st.drop (mna mode na)) = true) (hv : wrecv RO G mode (st.take (mna mode na)).reverse r9 = true) (hx : mhx k = [])
    (h : EvP RO d k9 (st.take (mna mode na)).reverse G M (fun o G' M' mc ms => match o with
      | .inl u => GoP RO d k L (u.toList ++ st.drop (mna mode na)) G' M' nx (c + mc) (s + ms) Q
      | .inr y => Q (.inr y) G' M' (c + mc) (s + ms))) : GoP RO d k L st G M pc c s Q := by
  refine wL_sound (K := fun L' st' G' M' pc' c' s' => GoP RO d k L' st' G' M' pc' c' s' Q) hcd hb ?_ (fun _ _ _ _ _ _ _ h9 => h9)
  unfold wcal
  rw [hr, hv]
  show EvP RO d k9 _ G M _
  refine EvP.conseq h (fun o G' M' mc ms h9 => ?_)
  cases o with
  | inl u => exact h9
  | inr y =>
    show wexc k pc y L G' M' (c + mc) (s + ms) _ Q
    unfold wexc
    rw [hx]
    exact h9
theorem g_getI {ci kf n q : Nat} {z : Int32} {r fs : List Value} (hcd : cd k pc = some (0, 37, nx, [ci, kf, n], v)) (hq : q < 1000000) (hg : G[q]? = some (.inr (.inl (ci, fs)))) (hy : fs[kf]? = some (.int z)) (h : GoP RO d k L (.int (M q kf) :: r) G M nx c s Q) : GoP RO d k L (.ref q :: r) G M pc c s Q := by
  have h1 : mget RO (wof G M) q = some (.inr (ci, sfld (M q) 0 fs)) := by
    rw [mget, show Nat.blt q 1000000 = true from Nat.ble_eq_true_of_le hq]
    show (wof G M)[q]? = _
    rw [wof_at, hg]; rfl
  have h2 : (sfld (M q) 0 fs)[kf]? = some (.int (M q kf)) := by rw [sfld_at, hy, Nat.zero_add]; rfl
  exact GoP.step 0 hcd (mstep0 (q := (ck_getfield, sf_getfield)) rfl (by simp only [sf_getfield, h1, show Nat.beq ci ci = true from Nat.beq_refl ci, cond_true, h2])) h
theorem g_alen {n q t : Nat} {r : List Value} (hcd : cd k pc = some (0, 42, nx, x, v)) (hq : q < 1000000) (ht : t < 4) (hg : G[q]? = some (.inl (t, n))) (h : GoP RO d k L (.int (Int32.ofNat n) :: r) G M nx c s Q) : GoP RO d k L (.ref q :: r) G M pc c s Q := by
  refine wS_sound (K := fun L' st' G' M' pc' c' s' => GoP RO d k L' st' G' M' pc' c' s' Q) hcd ?_ (fun _ _ _ _ _ _ _ h9 => h9)
  have hw : wlen RO G q = some n := by
    unfold wlen
    rw [show Nat.blt q 1000000 = true from Nat.ble_eq_true_of_le hq, cond_true, hg]
    simp only [show Nat.blt t 4 = true from Nat.ble_eq_true_of_le ht, cond_true]
  show (match wlen RO G q with
      | some n => GoP RO d k L (.int (Int32.ofNat n) :: r) G M nx c s Q
      | none => False)
  rw [hw]
  exact h
theorem wrd_o {q t n : Nat} (hq : q < 1000000) (ht : t < 4) (hg : G[q]? = some (.inl (t, n))) : wrd RO G M q = some (t, n, M q) := by
  unfold wrd
  rw [show Nat.blt q 1000000 = true from Nat.ble_eq_true_of_le hq, cond_true, hg]
  simp only [show Nat.beq t 4 = false from nbf (by omega), show Nat.beq t 5 = false from nbf (by omega), Bool.or_self, cond_false]
theorem g_bald {n q j : Nat} {i : Int32} {f : Nat → Int32} {r : List Value} (hcd : cd k pc = some (2, 9, nx, x, v)) (hw : wrd RO G M q = some (0, n, f)) (hn : n ≤ 1000000) (hi : i = Int32.ofNat j) (hj : j < n) (h : GoP RO d k L (.int (f j) :: r) G M nx c s Q) : GoP RO d k L (.int i :: .ref q :: r) G M pc c s Q := by
  refine wG_sound (K := fun L' st' G' M' pc' c' s' => GoP RO d k L' st' G' M' pc' c' s' Q) hcd ?_ (fun _ _ _ _ _ _ _ h9 => h9)
  show (match wrd RO G M q with
      | some (0, n, f) => bif Nat.ble n 1000000 then (∃ j : Nat, i = Int32.ofNat j ∧ j < n ∧ GoP RO d k L (.int (f j) :: r) G M nx c s Q) else False
      | some (2, n, f) => bif Nat.ble n 1000000 then (∃ j : Nat, i = Int32.ofNat j ∧ j < n ∧ GoP RO d k L (.int (f j) :: r) G M nx c s Q) else False
      | _ => False)
  rw [hw]
  show bif Nat.ble n 1000000 then _ else False
  rw [Nat.ble_eq_true_of_le hn]
  exact ⟨j, hi, hj, h⟩
theorem g_bast {n q j : Nat} {i y : Int32} {r : List Value} (hcd : cd k pc = some (2, 11, nx, x, v)) (hq : q < 1000000) (hg : G[q]? = some (.inl (0, n))) (hn : n ≤ 1000000) (hi : i = Int32.ofNat j) (hj : j < n) (h : GoP RO d k L r G (upM M q (upd (M q) j (vp_nar .byte y))) nx c s Q) : GoP RO d k L (.int y :: .int i :: .ref q :: r) G M pc c s Q := by
  refine wG_sound (K := fun L' st' G' M' pc' c' s' => GoP RO d k L' st' G' M' pc' c' s' Q) hcd ?_ (fun _ _ _ _ _ _ _ h9 => h9)
  show bif Nat.blt q 1000000 then (match G[q]? with
      | some (.inl (0, n)) => bif Nat.ble n 1000000 then (∃ j : Nat, i = Int32.ofNat j ∧ j < n ∧ GoP RO d k L r G (upM M q (upd (M q) j (vp_nar .byte y))) nx c s Q) else False
      | some (.inl (2, n)) => bif Nat.ble n 1000000 then (∃ j : Nat, i = Int32.ofNat j ∧ j < n ∧ GoP RO d k L r G (upM M q (upd (M q) j (vp_nar .boolean y))) nx c s Q) else False
      | _ => False) else False
  rw [show Nat.blt q 1000000 = true from Nat.ble_eq_true_of_le hq, cond_true, hg]
  show bif Nat.ble n 1000000 then _ else False
  rw [Nat.ble_eq_true_of_le hn]
  exact ⟨j, hi, hj, h⟩
theorem g_copyB {n0 n1 q0 q1 : Nat} {f : Nat → Int32} {n dp sp : Int32} {r : List Value} (hcd : cd k pc = some (2, 15, nx, x, v)) (hq : q1 < 1000000) (hr : mcs r = true) (hw : wrd RO G M q0 = some (0, n0, f)) (hg : G[q1]? = some (.inl (0, n1))) (hc : cpb sp dp n n0 n1 = true) (hf : ∀ i, i < n.toNatClampNeg → fits .byte (.int (f (sp.toNatClampNeg + i))) = true) (h : GoP RO d k L r G (upM M q1 (va_cpy f (M q1) sp.toNatClampNeg dp.toNatClampNeg n.toNatClampNeg)) nx c s Q) : GoP RO d k L (.int n :: .int dp :: .ref q1 :: .int sp :: .ref q0 :: r) G M pc c s Q := by
  refine wG_sound (K := fun L' st' G' M' pc' c' s' => GoP RO d k L' st' G' M' pc' c' s' Q) hcd ?_ (fun _ _ _ _ _ _ _ h9 => h9)
  show bif Nat.blt q1 1000000 && mcs r then (match wrd RO G M q0, G[q1]? with
      | some (1, n0, f0), some (.inl (1, n1)) => (cpb sp dp n n0 n1 = true) ∧ GoP RO d k L r G (upM M q1 (va_cpy f0 (M q1) sp.toNatClampNeg dp.toNatClampNeg n.toNatClampNeg)) nx c s Q
      | some (0, n0, f0), some (.inl (0, n1)) => (cpb sp dp n n0 n1 = true) ∧ ((List.range n.toNatClampNeg).all (fun i => fits .byte (.int (f0 (sp.toNatClampNeg + i)))) = true) ∧ GoP RO d k L r G (upM M q1 (va_cpy f0 (M q1) sp.toNatClampNeg dp.toNatClampNeg n.toNatClampNeg)) nx c s Q
      | _, _ => False) else False
  rw [show Nat.blt q1 1000000 = true from Nat.ble_eq_true_of_le hq, hr, Bool.and_self, cond_true, hw, hg]
  exact ⟨hc, List.all_eq_true.mpr (fun i hi => hf i (List.mem_range.mp hi)), h⟩
theorem g_cln {n q m : Nat} {r : List Value} (hcd : cd k pc = some (12, op, nx, x, v)) (hq : q < 1000000) (hr : mcs r = true) (hg : G[q]? = some (.inl (0, n))) (hG : G.length = m) (hm : m < 1000000) (hf : ∀ i, i < n → fits .byte (.int (M q i)) = true) (h : GoP RO d k L (.ref m :: r) (G ++ [.inl (0, n)]) (upM M m (M q)) nx (c + 1) (s + n) Q) : GoP RO d k L (.ref q :: r) G M pc c s Q := by
  subst hG
  refine wcln_sound (K := fun L' st' G' M' pc' c' s' => GoP RO d k L' st' G' M' pc' c' s' Q) hcd ?_ (fun _ _ _ _ _ _ _ h9 => h9)
  show bif Nat.blt q 1000000 && mcs r then (match G[q]? with
    | some (.inl (0, n)) => G.length < 1000000 ∧ (∀ i, i < n → fits .byte (.int (M q i)) = true) ∧ GoP RO d k L (.ref G.length :: r) (G ++ [.inl (0, n)]) (upM M G.length (M q)) nx (c + 1) (s + n) Q
    | _ => False) else False
  rw [show Nat.blt q 1000000 = true from Nat.ble_eq_true_of_le hq, hr, Bool.and_self, cond_true, hg]
  exact ⟨hm, hf, h⟩
theorem get_push {j : Nat} {y z : sh} (h : G[j]? = some y) : (G ++ [z])[j]? = some y := by
  rw [List.getElem?_append_left (List.getElem?_eq_some_iff.mp h).1]
  exact h
theorem get_last {m : Nat} {z : sh} (h : G.length = m) : (G ++ [z])[m]? = some z := by
  subst h
  simp
theorem get_set_ne {i j : Nat} {y z : sh} (h : i ≠ j) (hg : G[j]? = some y) : (G.set i z)[j]? = some y := by
  rw [List.getElem?_set_ne h]
  exact hg
theorem get_set_eq {i : Nat} {y z : sh} (hg : G[i]? = some y) : (G.set i z)[i]? = some z := by
  rw [List.getElem?_set_self (List.getElem?_eq_some_iff.mp hg).1]
end ROWS
