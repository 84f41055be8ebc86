section SND3
variable {RO : List mE} {d k pc c s op nx : Nat} {L st L' st' : List Value} {G G' : List sh} {M M' : mM} {Q : mQ} {K : mKt} {I : mI} {x : List Nat} {v : Value}
theorem mstep3 {call : mF} {W9 : List mE} {t : Nat} : mstep RO call k pc (3, op, nx, [t], v) L st W9 c s = some (.inl (L, st, W9, t, c, s)) := by
  unfold mstep
  simp only [show Nat.beq 3 0 = false from rfl, show Nat.beq 3 1 = false from rfl, show Nat.beq 3 2 = false from rfl, show Nat.beq 3 3 = true from rfl, cond_true, cond_false]
theorem mstep4 {call : mF} {W9 : List mE} {t : Nat} {i : Int32} {r : List Value} : mstep RO call k pc (4, op, nx, t :: x, v) L (.int i :: r) W9 c s = some (.inl (L, r, W9, mswt i (msw k pc) t, c, s)) := by
  unfold mstep
  simp only [show Nat.beq 4 0 = false from rfl, show Nat.beq 4 1 = false from rfl, show Nat.beq 4 2 = false from rfl, show Nat.beq 4 3 = false from rfl, show Nat.beq 4 4 = true from rfl, cond_true, cond_false]
theorem mstep6 {call : mF} {W9 : List mE} : mstep RO call k pc (6, op, nx, x, v) L st W9 c s = mnew op nx st L W9 c s := by
  unfold mstep
  simp only [show Nat.beq 6 0 = false from rfl, show Nat.beq 6 1 = false from rfl, show Nat.beq 6 2 = false from rfl, show Nat.beq 6 3 = false from rfl, show Nat.beq 6 4 = false from rfl, show Nat.beq 6 5 = false from rfl, show Nat.beq 6 6 = true from rfl, cond_true, cond_false]
theorem mstep7 {call : mF} {W9 : List mE} {mode k9 na z9 n1 n2 n3 n4 : Nat} {r9 : List Nat} : mstep RO call k pc (7, op, nx, mode :: k9 :: na :: z9 :: n1 :: n2 :: n3 :: n4 :: r9, v) L st W9 c s = bif Nat.ble (mna mode na) st.length then mcal RO call k pc nx mode k9 r9 (st.take (mna mode na)).reverse (st.drop (mna mode na)) L W9 c s else none := by
  unfold mstep
  simp only [show Nat.beq 7 0 = false from rfl, show Nat.beq 7 1 = false from rfl, show Nat.beq 7 2 = false from rfl, show Nat.beq 7 3 = false from rfl, show Nat.beq 7 4 = false from rfl, show Nat.beq 7 5 = false from rfl, show Nat.beq 7 6 = false from rfl, show Nat.beq 7 7 = true from rfl, cond_true, cond_false]
theorem mstep8 {call : mF} {W9 : List mE} {u : Option Value} (h : mretv k op st = some u) : mstep RO call k pc (8, op, nx, x, v) L st W9 c s = some (.inr (.inl u, W9, c, s)) := by
  unfold mstep
  simp only [show Nat.beq 8 0 = false from rfl, show Nat.beq 8 1 = false from rfl, show Nat.beq 8 2 = false from rfl, show Nat.beq 8 3 = false from rfl, show Nat.beq 8 4 = false from rfl, show Nat.beq 8 5 = false from rfl, show Nat.beq 8 6 = false from rfl, show Nat.beq 8 7 = false from rfl, show Nat.beq 8 8 = true from rfl, cond_true, cond_false, h]
theorem mstep9 {call : mF} {W9 : List mE} {E : Nat} (h : mcs st = true) : mstep RO call k pc (9, op, nx, E :: x, v) L st W9 c s = some (.inr (.inr E, W9, c + 1, s + 6)) := by
  unfold mstep
  simp only [show Nat.beq 9 0 = false from rfl, show Nat.beq 9 1 = false from rfl, show Nat.beq 9 2 = false from rfl, show Nat.beq 9 3 = false from rfl, show Nat.beq 9 4 = false from rfl, show Nat.beq 9 5 = false from rfl, show Nat.beq 9 6 = false from rfl, show Nat.beq 9 7 = false from rfl, show Nat.beq 9 8 = false from rfl, show Nat.beq 9 9 = true from rfl, cond_true, cond_false, h]
theorem mstep11 {call : mF} {q : mCk × mSf} {W9 W' : List mE} (hq : mZt[op]? = some q) (hf : q.2 RO x v L st W9 = some (L', st', W')) : mstep RO call k pc (11, op, nx, x, v) L st W9 c s = some (.inl (L', st', W', nx, c, s)) := by
  unfold mstep
  simp only [show Nat.beq 11 0 = false from rfl, show Nat.beq 11 1 = false from rfl, show Nat.beq 11 2 = false from rfl, show Nat.beq 11 3 = false from rfl, show Nat.beq 11 4 = false from rfl, show Nat.beq 11 5 = false from rfl, show Nat.beq 11 6 = false from rfl, show Nat.beq 11 7 = false from rfl, show Nat.beq 11 8 = false from rfl, show Nat.beq 11 9 = false from rfl, show Nat.beq 11 10 = false from rfl, show Nat.beq 11 11 = true from rfl, cond_true, cond_false, hq, hf]
theorem marr_sc {n9 : Nat} (h : op ≤ 2) : marr op n9 = scell (.inl (op, n9)) (fun _ => 0) := by
  have h4 : Nat.beq op 4 = false := nbf (by omega)
  have h5 : Nat.beq op 5 = false := nbf (by omega)
  have h3 : Nat.beq op 3 = false := nbf (by omega)
  simp only [marr, scell, h3, h4, h5, cond_false]
theorem mnew_go {n9 : Int32} {r9 : List Value} {W9 : List mE} (e1 : ¬ n9 < 0) (e2 : Nat.ble (n9.toNatClampNeg * 8) 536870912 = true) (e3 : Nat.blt W9.length 1000000 = true) : mnew op nx (.int n9 :: r9) L W9 c s = some (.inl (L, .ref W9.length :: r9, W9 ++ [marr op n9.toNatClampNeg], nx, c + 1, s + n9.toNatClampNeg)) := by
  simp only [mnew, decide_eq_false e1, e2, e3, Bool.not_false, Bool.and_self, cond_true]
theorem wnew_ok {n9 : Int32} {r9 : List Value} (e1 : ¬ n9 < 0) (e2 : Nat.ble (n9.toNatClampNeg * 8) 536870912 = true) (e3 : Nat.blt G.length 1000000 = true) (h2 : op ≤ 2) : mnew op nx (.int n9 :: r9) L (wof G M) c s = some (.inl (L, .ref G.length :: r9, wof (G ++ [.inl (op, n9.toNatClampNeg)]) (upM M G.length (fun _ => 0)), nx, c + 1, s + n9.toNatClampNeg)) := by
  rw [mnew_go e1 e2 (by rw [wof_len]; exact e3), marr_sc h2, wof_push, wof_len]
theorem wN_sound2 {n9 : Int32} {r9 : List Value} (hcd : cd k pc = some (6, op, nx, x, v)) (e1 : ¬ n9 < 0) (e2 : n9.toNatClampNeg * 8 ≤ 536870912) (e3 : G.length < 1000000) (h2 : op ≤ 2) (h : GoP RO d k L (.ref G.length :: r9) (G ++ [.inl (op, n9.toNatClampNeg)]) (upM M G.length (fun _ => 0)) nx (c + 1) (s + n9.toNatClampNeg) Q) : GoP RO d k L (.int n9 :: r9) G M pc c s Q :=
  GoP.step 0 hcd (mstep6.trans (wnew_ok e1 (Nat.ble_eq_true_of_le e2) (Nat.ble_eq_true_of_le e3) h2)) h
theorem wN_sound (hcd : cd k pc = some (6, op, nx, x, v)) (h : wnew op nx st L G M c s K) (hK : ∀ L' st' G' M' pc' c' s', K L' st' G' M' pc' c' s' → GoP RO d k L' st' G' M' pc' c' s' Q) : GoP RO d k L st G M pc c s Q := by
  cases st with
  | nil => exact h.elim
  | cons a r9 =>
    cases a with
    | int n9 =>
      replace h : (bif Nat.ble op 2 then (¬ n9 < 0) ∧ n9.toNatClampNeg * 8 ≤ 536870912 ∧ G.length < 1000000 ∧ K L (.ref G.length :: r9) (G ++ [.inl (op, n9.toNatClampNeg)]) (upM M G.length (fun _ => 0)) nx (c + 1) (s + n9.toNatClampNeg) else False) := h
      cases hb : Nat.ble op 2 with
      | false => rw [hb] at h; exact h.elim
      | true =>
        rw [hb] at h
        exact wN_sound2 hcd h.1 h.2.1 h.2.2.1 (Nat.le_of_ble_eq_true hb) (hK _ _ _ _ _ _ _ h.2.2.2)
    | _ => exact h.elim
theorem mdef_sc : ∀ ci, ci ≤ 6 → sfld (fun _ => 0) 0 (mdef ci) = mdef ci
  | 0, _ => rfl
  | 1, _ => rfl
  | 2, _ => rfl
  | 3, _ => rfl
  | 4, _ => rfl
  | 5, _ => rfl
  | 6, _ => rfl
  | j + 7, h => absurd h (by omega)
theorem mstep5 {call : mF} {W9 : List mE} {ci n1 n2 n3 : Nat} (e3 : Nat.blt W9.length 1000000 = true) : mstep RO call k pc (5, op, nx, [ci, n1, n2, n3], v) L st W9 c s = some (.inl (L, .ref W9.length :: st, W9 ++ [.inr (ci, mdef ci)], nx, c + 1, s + (mdef ci).length)) := by
  unfold mstep
  simp only [show Nat.beq 5 0 = false from rfl, show Nat.beq 5 1 = false from rfl, show Nat.beq 5 2 = false from rfl, show Nat.beq 5 3 = false from rfl, show Nat.beq 5 4 = false from rfl, show Nat.beq 5 5 = true from rfl, cond_true, cond_false, e3]
theorem mstep10 {call : mF} {W9 : List mE} : mstep RO call k pc (10, op, nx, x, v) L st W9 c s = mnew 3 nx st L W9 c s := by
  unfold mstep
  simp only [show Nat.beq 10 0 = false from rfl, show Nat.beq 10 1 = false from rfl, show Nat.beq 10 2 = false from rfl, show Nat.beq 10 3 = false from rfl, show Nat.beq 10 4 = false from rfl, show Nat.beq 10 5 = false from rfl, show Nat.beq 10 6 = false from rfl, show Nat.beq 10 7 = false from rfl, show Nat.beq 10 8 = false from rfl, show Nat.beq 10 9 = false from rfl, show Nat.beq 10 10 = true from rfl, cond_true, cond_false]
theorem wO_sound {ci n1 n2 n3 : Nat} (hcd : cd k pc = some (5, op, nx, [ci, n1, n2, n3], v)) (e1 : ci ≤ 6) (e3 : G.length < 1000000) (h : GoP RO d k L (.ref G.length :: st) (G ++ [.inr (.inl (ci, mdef ci))]) (upM M G.length (fun _ => 0)) nx (c + 1) (s + (mdef ci).length) Q) : GoP RO d k L st G M pc c s Q := by
  refine GoP.step 0 hcd ((mstep5 (by rw [wof_len]; exact Nat.ble_eq_true_of_le e3)).trans ?_) h
  have hs := wof_push (G := G) (M := M) (s := .inr (.inl (ci, mdef ci))) (f := fun _ => 0)
  replace hs : wof G M ++ [.inr (ci, sfld (fun _ => 0) 0 (mdef ci))] = _ := hs
  rw [mdef_sc ci e1] at hs
  rw [hs, wof_len]
theorem wA_sound {n9 : Int32} {r9 : List Value} (hcd : cd k pc = some (10, op, nx, x, v)) (e1 : ¬ n9 < 0) (e2 : n9.toNatClampNeg * 8 ≤ 536870912) (e3 : G.length < 1000000) (h : GoP RO d k L (.ref G.length :: r9) (G ++ [.inr (.inr (.inl (3, n9.toNatClampNeg, .inr (.inr (.inr (.inr (fun _ => none)))))))]) (upM M G.length (fun _ => 0)) nx (c + 1) (s + n9.toNatClampNeg) Q) : GoP RO d k L (.int n9 :: r9) G M pc c s Q := by
  refine GoP.step 0 hcd ((mstep10.trans (mnew_go e1 (Nat.ble_eq_true_of_le e2) (by rw [wof_len]; exact Nat.ble_eq_true_of_le e3))).trans ?_) h
  have hs := wof_push (G := G) (M := M) (s := .inr (.inr (.inl (3, n9.toNatClampNeg, .inr (.inr (.inr (.inr (fun _ => none)))))))) (f := fun _ => 0)
  replace hs : wof G M ++ [.inl (3, n9.toNatClampNeg, .inr (.inr (.inr (.inr (fun _ => none)))))] = _ := hs
  have hm : marr 3 n9.toNatClampNeg = .inl (3, n9.toNatClampNeg, .inr (.inr (.inr (.inr (fun _ => none))))) := by simp only [marr, show Nat.beq 3 4 = false from rfl, show Nat.beq 3 5 = false from rfl, show Nat.beq 3 3 = true from rfl, cond_true, cond_false]
  rw [hm, hs, wof_len]
theorem wL_sound {mode k9 na z9 n1 n2 n3 n4 : Nat} {r9 : List Nat} (hcd : cd k pc = some (7, op, nx, mode :: k9 :: na :: z9 :: n1 :: n2 :: n3 :: n4 :: r9, v)) (hb : Nat.ble (mna mode na) st.length = true) (h : wcal RO d k pc nx mode k9 r9 (st.take (mna mode na)).reverse (st.drop (mna mode na)) L G M c s K Q) (hK : ∀ L' st' G' M' pc' c' s', K L' st' G' M' pc' c' s' → GoP RO d k L' st' G' M' pc' c' s' Q) : GoP RO d k L st G M pc c s Q := by
  unfold wcal at h
  cases hb2 : (mcs (st.drop (mna mode na)) && wrecv RO G mode (st.take (mna mode na)).reverse r9) with
  | false => rw [hb2] at h; exact h.elim
  | true =>
    rw [hb2] at h
    replace h := h
    obtain ⟨o9, G2, M2, mc, ms, F, hr, hq⟩ := h
    rw [Bool.and_eq_true] at hb2
    have hms : mstep RO (mrun RO F d) k pc (7, op, nx, mode :: k9 :: na :: z9 :: n1 :: n2 :: n3 :: n4 :: r9, v) L st (wof G M) c s = (match (some (o9, wof G2 M2, mc, ms) : Option mR) with
        | none => none
        | some (.inl v9, W', mc, ms) => some (.inl (L, v9.toList ++ st.drop (mna mode na), W', nx, c + mc, s + ms))
        | some (.inr x9, W', mc, ms) => mexc k pc x9 L W' (c + mc) (s + ms)) := by
      rw [mstep7, hb]
      unfold mcal
      rw [hb2.1, wrecv_ok hb2.2, hr]
      rfl
    cases o9 with
    | inl v9 => exact GoP.step F hcd hms (hK _ _ _ _ _ _ _ hq)
    | inr x9 =>
      rcases wexc_ok hq with ⟨e1, e2⟩ | ⟨L2, nx2, e1, e2⟩
      · exact GoP.stop F hcd (hms.trans e1) e2
      · exact GoP.step F hcd (hms.trans e1) (hK _ _ _ _ _ _ _ e2)
theorem wZ_sound (hcd : cd k pc = some (11, op, nx, x, v)) (h : match mZt[op]? with
        | none => False
        | some q => match q.2 RO x v L st [] with
          | some (L', st', _) => K L' st' G M nx c s
          | none => False) (hK : ∀ L' st' G' M' pc' c' s', K L' st' G' M' pc' c' s' → GoP RO d k L' st' G' M' pc' c' s' Q) : GoP RO d k L st G M pc c s Q := by
  cases hq : mZt[op]? with
  | none => rw [hq] at h; exact h.elim
  | some q =>
    rw [hq] at h
    replace h : (match q.2 RO x v L st [] with
          | some (L', st', _) => K L' st' G M nx c s
          | none => False) := h
    cases hf : q.2 RO x v L st [] with
    | none => rw [hf] at h; exact h.elim
    | some t =>
      obtain ⟨L2, st2, W2⟩ := t
      rw [hf] at h
      exact GoP.step 0 hcd (mstep11 hq (wz_at q (List.mem_of_getElem? hq) _ _ _ _ _ _ _ _ (wof G M) hf)) (hK _ _ _ _ _ _ _ h)
theorem mstep12 {call : mF} {W9 : List mE} : mstep RO call k pc (12, op, nx, x, v) L st W9 c s = mcln nx st L W9 c s := by
  unfold mstep
  simp only [show Nat.beq 12 0 = false from rfl, show Nat.beq 12 1 = false from rfl, show Nat.beq 12 2 = false from rfl, show Nat.beq 12 3 = false from rfl, show Nat.beq 12 4 = false from rfl, show Nat.beq 12 5 = false from rfl, show Nat.beq 12 6 = false from rfl, show Nat.beq 12 7 = false from rfl, show Nat.beq 12 8 = false from rfl, show Nat.beq 12 9 = false from rfl, show Nat.beq 12 10 = false from rfl, show Nat.beq 12 11 = false from rfl, show Nat.beq 12 12 = true from rfl, cond_true, cond_false]
theorem wcln_sound (hcd : cd k pc = some (12, op, nx, x, v)) (h : wcln nx st L G M c s K) (hK : ∀ L' st' G' M' pc' c' s', K L' st' G' M' pc' c' s' → GoP RO d k L' st' G' M' pc' c' s' Q) : GoP RO d k L st G M pc c s Q := by
  unfold wcln at h
  split at h
  · rename_i q r
    cases hb : (Nat.blt q 1000000 && mcs r) with
    | false => rw [hb] at h; exact h.elim
    | true =>
      rw [hb] at h
      simp only [cond_true] at h
      split at h
      · rename_i n hg
        obtain ⟨h1, h2, h3⟩ := h
        refine GoP.step 0 hcd (mstep12.trans ?_) (hK _ _ _ _ _ _ _ h3)
        have hm : (wof G M)[q]? = some (.inl (0, n, .inl (M q))) := by rw [wof_at, hg]; rfl
        have hf : (List.range n).all (fun i => fits .byte (.int (M q i))) = true := List.all_eq_true.mpr (fun i hi => h2 i (List.mem_range.mp hi))
        have hs := wof_push (G := G) (M := M) (s := .inl (0, n)) (f := M q)
        replace hs : wof G M ++ [.inl (0, n, .inl (M q))] = _ := hs
        unfold mcln
        simp only [hb, wof_len, show Nat.blt G.length 1000000 = true from Nat.ble_eq_true_of_le h1, Bool.and_self, cond_true, hm, hf, hs]
      · exact h.elim
  · exact h.elim
theorem wst_sound (hcd : cd k pc = some I) (h : wst RO d k pc I L st G M c s K Q) (hK : ∀ L' st' G' M' pc' c' s', K L' st' G' M' pc' c' s' → GoP RO d k L' st' G' M' pc' c' s' Q) : GoP RO d k L st G M pc c s Q := by
  obtain ⟨g, op, nx, x, v⟩ := I
  unfold wst at h
  simp only at h
  cases g0 : Nat.beq g 0 with
  | true =>
    rw [g0] at h
    cases Nat.eq_of_beq_eq_true g0
    simp only [cond_true] at h
    exact wS_sound hcd h hK
  | false =>
  rw [g0] at h
  simp only [cond_false] at h
  cases g1 : Nat.beq g 1 with
  | true =>
    rw [g1] at h
    cases Nat.eq_of_beq_eq_true g1
    simp only [cond_true] at h
    split at h
    · exact wC_sound hcd h hK
    · exact h.elim
  | false =>
  rw [g1] at h
  simp only [cond_false] at h
  cases g2 : Nat.beq g 2 with
  | true =>
    rw [g2] at h
    cases Nat.eq_of_beq_eq_true g2
    simp only [cond_true] at h
    exact wG_sound hcd h hK
  | false =>
  rw [g2] at h
  simp only [cond_false] at h
  cases g3 : Nat.beq g 3 with
  | true =>
    rw [g3] at h
    cases Nat.eq_of_beq_eq_true g3
    simp only [cond_true] at h
    split at h
    · exact GoP.step 0 hcd mstep3 (hK _ _ _ _ _ _ _ h)
    · exact h.elim
  | false =>
  rw [g3] at h
  simp only [cond_false] at h
  cases g4 : Nat.beq g 4 with
  | true =>
    rw [g4] at h
    cases Nat.eq_of_beq_eq_true g4
    simp only [cond_true] at h
    split at h
    · have h9 := wsw_use _ _ h
      exact GoP.step 0 hcd mstep4 (hK _ _ _ _ _ _ _ h9)
    · exact h.elim
  | false =>
  rw [g4] at h
  simp only [cond_false] at h
  cases g6 : Nat.beq g 6 with
  | true =>
    rw [g6] at h
    cases Nat.eq_of_beq_eq_true g6
    simp only [cond_true] at h
    exact wN_sound hcd h hK
  | false =>
  rw [g6] at h
  simp only [cond_false] at h
  cases g7 : Nat.beq g 7 with
  | true =>
    rw [g7] at h
    cases Nat.eq_of_beq_eq_true g7
    simp only [cond_true] at h
    split at h
    · rename_i mode k9 na z9 n1 n2 n3 n4 r9
      cases hb : Nat.ble (mna mode na) st.length with
      | false => rw [hb] at h; exact h.elim
      | true =>
        rw [hb] at h
        exact wL_sound hcd hb h hK
    · exact h.elim
  | false =>
  rw [g7] at h
  simp only [cond_false] at h
  cases g8 : Nat.beq g 8 with
  | true =>
    rw [g8] at h
    cases Nat.eq_of_beq_eq_true g8
    simp only [cond_true] at h
    obtain ⟨v9, e1, e2⟩ := wret_ok h
    exact GoP.stop 0 hcd (mstep8 e1) e2
  | false =>
  rw [g8] at h
  simp only [cond_false] at h
  cases g9 : Nat.beq g 9 with
  | true =>
    rw [g9] at h
    cases Nat.eq_of_beq_eq_true g9
    simp only [cond_true] at h
    split at h
    · rename_i E x9
      cases hb : mcs st with
      | false => rw [hb] at h; exact h.elim
      | true =>
        rw [hb] at h
        exact GoP.stop 0 hcd (mstep9 hb) h
    · exact h.elim
  | false =>
  rw [g9] at h
  simp only [cond_false] at h
  cases g11 : Nat.beq g 11 with
  | true =>
    rw [g11] at h
    cases Nat.eq_of_beq_eq_true g11
    exact wZ_sound hcd h hK
  | false =>
  rw [g11] at h
  simp only [cond_false] at h
  cases g5 : Nat.beq g 5 with
  | true =>
    rw [g5] at h
    cases Nat.eq_of_beq_eq_true g5
    simp only [cond_true] at h
    split at h
    · rename_i ci n1 n2 n3
      cases hb : Nat.ble ci 6 with
      | false => rw [hb] at h; exact h.elim
      | true =>
        rw [hb] at h
        exact wO_sound hcd (Nat.le_of_ble_eq_true hb) h.1 (hK _ _ _ _ _ _ _ h.2)
    · exact h.elim
  | false =>
  rw [g5] at h
  simp only [cond_false] at h
  cases g10 : Nat.beq g 10 with
  | true =>
    rw [g10] at h
    cases Nat.eq_of_beq_eq_true g10
    simp only [cond_true] at h
    split at h
    · rename_i n9 r9
      exact wA_sound hcd h.1 h.2.1 h.2.2.1 (hK _ _ _ _ _ _ _ h.2.2.2)
    · exact h.elim
  | false =>
  rw [g10] at h
  simp only [cond_false] at h
  cases g12 : Nat.beq g 12 with
  | true =>
    rw [g12] at h
    cases Nat.eq_of_beq_eq_true g12
    exact wcln_sound hcd h hK
  | false =>
    rw [g12] at h
    exact h.elim
theorem wp_sound (stops : List Nat) : ∀ (n : Nat) (L st : List Value) (G : List sh) (M : mM) (pc c s : Nat), wp RO d stops k n L st G M pc c s Q → GoP RO d k L st G M pc c s Q := by
  intro n
  induction n with
  | zero => intro L st G M pc c s h; exact h
  | succ n ih =>
    intro L st G M pc c s h
    rw [wp] at h
    split at h
    · exact h.elim
    · rename_i I hcd
      refine wst_sound hcd h (fun L' st' G' M' pc' c' s' hk => ?_)
      cases hb : mmem pc' stops with
      | true => rw [hb] at hk; exact hk
      | false => rw [hb] at hk; exact ih _ _ _ _ _ _ _ hk
def mguard (k : Nat) (as : List Value) : Bool := !(Nat.beq k 287) && Nat.blt k 375 && mcat1 as && Nat.ble as.length (mml k)
theorem EvP.of {as : List Value} (hg : mguard k as = true) (h : GoP RO d k (mloc k as) [] G M 0 0 0 Q) : EvP RO (d + 1) k as G M Q := by
  obtain ⟨o, G', M', mc, ms, F, n, h1, h2⟩ := h
  refine ⟨o, G', M', mc, ms, max F n, ?_, h2⟩
  unfold mguard at hg
  simp only [Bool.and_eq_true, Bool.not_eq_true'] at hg
  obtain ⟨⟨⟨g1, g2⟩, g3⟩, g4⟩ := hg
  rw [mrun_s]
  rw [g1, g2, g3, g4]
  simp only [cond_false, Bool.and_self, cond_true]
  exact mgo_le (mrun_le RO d d F (max F n) (Nat.le_refl _) (Nat.le_max_left _ _)) n (max F n) (Nat.le_max_right _ _) _ _ _ _ _ _ _ h1
theorem EvP.wp {as : List Value} (stops : List Nat) (n : Nat) (hg : mguard k as = true) (h : wp RO d stops k n (mloc k as) [] G M 0 0 0 Q) : EvP RO (d + 1) k as G M Q := EvP.of hg (wp_sound stops n _ _ _ _ _ _ _ h)
theorem ev_checkIndex {i n : Int32} (h0 : ¬ i < 0) (h1 : i < n) : EvR RO (d + 1) 287 [.int i, .int n] G M none M := by
  refine ⟨_, G, M, 0, 0, 0, ?_, rfl, rfl, rfl, rfl, rfl⟩
  rw [mrun_s]
  simp only [show Nat.beq 287 287 = true from rfl, cond_true, mlib]
  rw [decide_eq_false h0, decide_eq_true h1]
  rfl
end SND3
