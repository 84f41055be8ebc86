theorem mck_goto {k pc len op nx t : Nat} {i : Instr} {v : Value} (hc : mckI k pc i len 3 op nx [t] v = true) : ∃ off : Int, i = .goto off ∧ (pc : Int) + off = (t : Int) ∧ len = 3 := by
  unfold mckI at hc
  simp only [show Nat.beq 3 0 = false from rfl, show Nat.beq 3 1 = false from rfl, show Nat.beq 3 2 = false from rfl, show Nat.beq 3 3 = true from rfl, cond_true, cond_false] at hc
  split at hc
  · rename_i off t9 hx9
    cases hx9
    simp only [Bool.and_eq_true, decide_eq_true_eq] at hc
    exact ⟨off, rfl, hc.1, Nat.eq_of_beq_eq_true hc.2⟩
  · cases hc
theorem mck_arr {k pc len op nx : Nat} {i : Instr} {x : List Nat} {v : Value} (hc : mckI k pc i len 6 op nx x v = true) : ∃ n1, x = [n1] := by
  unfold mckI at hc
  simp only [show Nat.beq 6 0 = false from rfl, show Nat.beq 6 1 = false from rfl, show Nat.beq 6 2 = false from rfl, show Nat.beq 6 3 = false from rfl, show Nat.beq 6 4 = false from rfl, show Nat.beq 6 5 = false from rfl, show Nat.beq 6 6 = true from rfl, cond_true, cond_false] at hc
  split at hc
  · exact ⟨_, rfl⟩
  · cases hc
theorem mck_anw {k pc len op nx : Nat} {i : Instr} {x : List Nat} {v : Value} (hc : mckI k pc i len 10 op nx x v = true) : ∃ n1 n2, x = [n1, n2] := by
  unfold mckI at hc
  simp only [show Nat.beq 10 0 = false from rfl, show Nat.beq 10 1 = false from rfl, show Nat.beq 10 2 = false from rfl, show Nat.beq 10 3 = false from rfl, show Nat.beq 10 4 = false from rfl, show Nat.beq 10 5 = false from rfl, show Nat.beq 10 6 = false from rfl, show Nat.beq 10 7 = false from rfl, show Nat.beq 10 8 = false from rfl, show Nat.beq 10 9 = false from rfl, show Nat.beq 10 10 = true from rfl, cond_true, cond_false] at hc
  split at hc
  · exact ⟨_, _, rfl⟩
  · cases hc
section SIM
variable {X : mX} {cells slots : Nat} {ad ad0 : Nat → Nat} {L st r : List Value} {W9 W' : List mE} {pc n9 : Nat}
theorem m_newst {op nx : Nat} {c s : Nat} {a : mAct} (h : mnew op nx st L W9 c s = some a) : ∃ n r, st = .int n :: r ∧ ¬ n < 0 ∧ n.toNatClampNeg * 8 ≤ 536870912 ∧ W9.length < 1000000 ∧ a = .inl (L, .ref W9.length :: r, W9 ++ [marr op n.toNatClampNeg], nx, c + 1, s + n.toNatClampNeg) := by
  unfold mnew at h
  split at h
  · rename_i n r
    cases hb : (!decide (n < 0) && Nat.ble (n.toNatClampNeg * 8) 536870912 && Nat.blt W9.length 1000000) with
    | false => rw [hb] at h; cases h
    | true =>
      rw [hb] at h
      cases h
      simp only [Bool.and_eq_true, Bool.not_eq_true', decide_eq_false_iff_not] at hb
      exact ⟨n, r, rfl, hb.1.1, Nat.le_of_ble_eq_true hb.1.2, Nat.le_of_ble_eq_true hb.2, rfl⟩
  · cases h
theorem mstep_sim {d : Nat} {call : mF} {I : mI} {a : mAct} (hX : mCx X) (hY : mCy X) (hro : ∀ e ∈ mRO X, wE 0 e) (hk9 : mkk X < 376) (hcs : cells ≤ (mRm X).cells) (hss : slots ≤ (mRm X).slots) (hag : ∀ j, j < n9 → ad j = ad0 j) (hle : n9 ≤ W9.length)
    (hcall : mCalls X d call) (hR : d + 31 ≤ (mRm X).frames ∧ 60 * (d + 1) + 300 ≤ (mRm X).locals) (hc : mchk (mkk X) pc I = true) (hm : mstep (mRO X) call (mkk X) pc I L st W9 cells slots = some a) (hK : mK X ad ad0 n9 W9.length a) : mGo X cells slots ad L st W9 pc := by
  obtain ⟨g, op, nx, x, v⟩ := I
  unfold mchk at hc
  split at hc
  · rename_i i len hd
    change mckI (mkk X) pc i len g op nx x v = true at hc
    unfold mstep at hm
    simp only at hm
    cases g0 : Nat.beq g 0 with
    | true =>
      cases Nat.eq_of_beq_eq_true g0
      simp only [show Nat.beq 0 0 = true from rfl, cond_true] at hm
      replace hc : (Nat.beq nx (pc + len) && (match mSt[op]? with | some q => q.1 (mkk X) i len x v | none => false)) = true := hc
      simp only [Bool.and_eq_true] at hc
      cases hq : mSt[op]? with
      | none => rw [hq] at hm; cases hm
      | some q =>
        rw [hq] at hm hc
        simp only at hm hc
        cases hf : q.2 (mRO X) x v L st W9 with
        | none => rw [hf] at hm; cases hm
        | some t =>
          obtain ⟨L', st', W2⟩ := t
          rw [hf] at hm
          cases hm
          exact mSt_ok q (List.mem_of_getElem? hq) X cells slots ad L st W9 pc nx i len x v L' st' W2 hX hY hro hcs hss hd (Nat.eq_of_beq_eq_true hc.1) hc.2 hf (hK.2.2 ad (fun _ _ => rfl))
    | false =>
    rw [g0] at hm
    simp only [cond_false] at hm
    cases g1 : Nat.beq g 1 with
    | true =>
      cases Nat.eq_of_beq_eq_true g1
      simp only [show Nat.beq 1 1 = true from rfl, cond_true] at hm
      replace hc : (match mCt[op]? with | some q => q.1 pc i len x | none => false) = true := hc
      cases hq : mCt[op]? with
      | none => rw [hq] at hc; cases hc
      | some q =>
        rw [hq] at hm hc
        simp only at hm hc
        split at hm
        · rename_i q' tT tF hq9
          cases hq9
          cases hf : q.2 st with
          | none => rw [hf] at hm; cases hm
          | some t =>
            obtain ⟨b, st'⟩ := t
            rw [hf] at hm
            simp only at hm
            refine mCt_ok q (List.mem_of_getElem? hq) X cells slots ad L st W9 pc i len tT tF b st' hX hd hc hf (fun e => ?_) (fun e => ?_)
            · rw [e] at hm
              cases hm
              exact hK.2.2 ad (fun _ _ => rfl)
            · rw [e] at hm
              cases hm
              exact hK.2.2 ad (fun _ _ => rfl)
        · cases hm
    | false =>
    rw [g1] at hm
    simp only [cond_false] at hm
    cases g2 : Nat.beq g 2 with
    | true =>
      cases Nat.eq_of_beq_eq_true g2
      simp only [show Nat.beq 2 2 = true from rfl, cond_true] at hm
      replace hc : (Nat.beq nx (pc + len) && (match mGt[op]? with | some q => q.1 (mkk X) i len x | none => false)) = true := hc
      simp only [Bool.and_eq_true] at hc
      cases hq : mGt[op]? with
      | none => rw [hq] at hm; cases hm
      | some q =>
        rw [hq] at hm hc
        simp only at hm hc
        cases hf : q.2 (mRO X) x L st W9 with
        | none => rw [hf] at hm; cases hm
        | some t =>
          obtain ⟨b, L', st', W2⟩ := t
          rw [hf] at hm
          simp only at hm
          cases b with
          | false => cases hm
          | true =>
            cases hm
            exact mGt_ok q (List.mem_of_getElem? hq) X cells slots ad L st W9 pc nx i len x true L' st' W2 hX hro hd (Nat.eq_of_beq_eq_true hc.1) hc.2 hf rfl (hK.2.2 ad (fun _ _ => rfl))
    | false =>
    rw [g2] at hm
    simp only [cond_false] at hm
    cases g3 : Nat.beq g 3 with
    | true =>
      cases Nat.eq_of_beq_eq_true g3
      simp only [show Nat.beq 3 3 = true from rfl, cond_true] at hm
      split at hm
      · rename_i t
        cases hm
        obtain ⟨off, rfl, h1, rfl⟩ := mck_goto hc
        exact o_goto hX h1 hd (hK.2.2 ad (fun _ _ => rfl))
      · cases hm
    | false =>
    rw [g3] at hm
    simp only [cond_false] at hm
    cases g4 : Nat.beq g 4 with
    | true =>
      cases Nat.eq_of_beq_eq_true g4
      simp only [show Nat.beq 4 4 = true from rfl, cond_true] at hm
      split at hm
      · rename_i i9 r9 df x9
        cases hm
        exact m_sw hX hc hd (hK.2.2 ad (fun _ _ => rfl))
      · cases hm
    | false =>
    rw [g4] at hm
    simp only [cond_false] at hm
    cases g5 : Nat.beq g 5 with
    | true =>
      cases Nat.eq_of_beq_eq_true g5
      simp only [show Nat.beq 5 5 = true from rfl, cond_true] at hm
      split at hm
      · rename_i ci n1 n2 n3
        cases hb : Nat.blt W9.length 1000000 with
        | false => rw [hb] at hm; cases hm
        | true =>
          rw [hb] at hm
          cases hm
          exact m_new hX hc hd (Nat.le_of_ble_eq_true hb) hK.1 hK.2.1 hK.2.2
      · cases hm
    | false =>
    rw [g5] at hm
    simp only [cond_false] at hm
    cases g6 : Nat.beq g 6 with
    | true =>
      cases Nat.eq_of_beq_eq_true g6
      simp only [show Nat.beq 6 6 = true from rfl, cond_true] at hm
      obtain ⟨n, r, rfl, h1, h2, h3, rfl⟩ := m_newst hm
      obtain ⟨n1, rfl⟩ := mck_arr hc
      exact m_arr hX hc hd h1 h2 h3 hK.1 hK.2.1 hK.2.2
    | false =>
    rw [g6] at hm
    simp only [cond_false] at hm
    cases g7 : Nat.beq g 7 with
    | true =>
      cases Nat.eq_of_beq_eq_true g7
      simp only [show Nat.beq 7 7 = true from rfl, cond_true] at hm
      split at hm
      · rename_i mode k9 na z n1 n2 n3 n4 r9
        cases hb : Nat.ble (mna mode na) st.length with
        | false => rw [hb] at hm; cases hm
        | true =>
          rw [hb] at hm
          have hb := Nat.le_of_ble_eq_true hb
          have hst : st = (st.take (mna mode na)).reverse.reverse ++ st.drop (mna mode na) := by rw [List.reverse_reverse, List.take_append_drop]
          rw [hst]
          exact m_call hX hY hk9 hag hle hcall hR hc hd (by rw [List.length_reverse, List.length_take]; omega) hm hK
      · cases hm
    | false =>
    rw [g7] at hm
    simp only [cond_false] at hm
    cases g8 : Nat.beq g 8 with
    | true =>
      cases Nat.eq_of_beq_eq_true g8
      simp only [show Nat.beq 8 8 = true from rfl, cond_true] at hm
      cases hv : mretv (mkk X) op st with
      | none => rw [hv] at hm; cases hm
      | some v9 =>
        rw [hv] at hm
        cases hm
        exact m_ret hX hK.2.2 hag hle hv hc hd
    | false =>
    rw [g8] at hm
    simp only [cond_false] at hm
    cases g9 : Nat.beq g 9 with
    | true =>
      cases Nat.eq_of_beq_eq_true g9
      simp only [show Nat.beq 9 9 = true from rfl, cond_true] at hm
      split at hm
      · rename_i E x9
        cases hb : mcs st with
        | false => rw [hb] at hm; cases hm
        | true =>
          rw [hb] at hm
          cases hm
          replace hc : (Nat.beq len 3 && mkThr (mkk X) pc i op (E :: x9)) = true := hc
          rw [Bool.and_eq_true] at hc
          cases Nat.eq_of_beq_eq_true hc.1
          replace hc := hc.2
          exact m_thr hX hY hK.2.2 hag hle hK.1 hK.2.1 hb hc hd
      · cases hm
    | false =>
    rw [g9] at hm
    simp only [cond_false] at hm
    cases g10 : Nat.beq g 10 with
    | true =>
      cases Nat.eq_of_beq_eq_true g10
      simp only [show Nat.beq 10 10 = true from rfl, cond_true] at hm
      obtain ⟨n, r, rfl, h1, h2, h3, rfl⟩ := m_newst hm
      obtain ⟨n1, n2, rfl⟩ := mck_anw hc
      exact m_anw (op := op) hX hc hd h1 h2 h3 hK.1 hK.2.1 hK.2.2
    | false =>
    rw [g10] at hm
    simp only [cond_false] at hm
    cases g11 : Nat.beq g 11 with
    | true =>
      cases Nat.eq_of_beq_eq_true g11
      simp only [show Nat.beq 11 11 = true from rfl, cond_true] at hm
      replace hc : (Nat.beq nx (pc + len) && (match mZt[op]? with | some q => q.1 (mkk X) i len x v | none => false)) = true := hc
      simp only [Bool.and_eq_true] at hc
      cases hq : mZt[op]? with
      | none => rw [hq] at hm; cases hm
      | some q =>
        rw [hq] at hm hc
        simp only at hm hc
        cases hf : q.2 (mRO X) x v L st W9 with
        | none => rw [hf] at hm; cases hm
        | some t =>
          obtain ⟨L', st', W2⟩ := t
          rw [hf] at hm
          cases hm
          exact mZt_ok q (List.mem_of_getElem? hq) X cells slots ad L st W9 pc nx i len x v L' st' W2 hX hY hro hcs hss hd (Nat.eq_of_beq_eq_true hc.1) hc.2 hf (hK.2.2 ad (fun _ _ => rfl))
    | false =>
    rw [g11] at hm
    simp only [cond_false] at hm
    cases g12 : Nat.beq g 12 with
    | true =>
      cases Nat.eq_of_beq_eq_true g12
      simp only [show Nat.beq 12 12 = true from rfl, cond_true] at hm
      exact m_cln hX hY hc hd hm hK
    | false =>
      rw [g12] at hm
      cases hm
  · cases hc
end SIM
