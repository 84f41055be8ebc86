/-! what is shown of the stretch holds of the run -/
section SND
variable {RO : List mE} {d k pc c s op nx : Nat} {L st L' st' : List Value} {G G' : List sh} {M M' : mM} {Q : mQ} {K : mKt} {I : mI} {x : List Nat} {v : Value}
theorem GoP.step {pc' c' s' : Nat} (F0 : Nat) (hcd : cd k pc = some I) (hs : mstep RO (mrun RO F0 d) k pc I L st (wof G M) c s = some (.inl (L', st', wof G' M', pc', c', s'))) (h : GoP RO d k L' st' G' M' pc' c' s' Q) : GoP RO d k L st G M pc c s Q := by
  obtain ⟨o, G2, M2, mc, ms, F, n, h1, h2⟩ := h
  refine ⟨o, G2, M2, mc, ms, max F0 F, n + 1, ?_, h2⟩
  rw [mgo, hcd]
  simp only
  rw [mstep_le (mrun_le RO d d F0 (max F0 F) (Nat.le_refl _) (Nat.le_max_left _ _)) hs]
  exact mgo_le (mrun_le RO d d F (max F0 F) (Nat.le_refl _) (Nat.le_max_right _ _)) n n (Nat.le_refl _) _ _ _ _ _ _ _ h1
theorem GoP.stop {o : mO} {c' s' : Nat} (F0 : Nat) (hcd : cd k pc = some I) (hs : mstep RO (mrun RO F0 d) k pc I L st (wof G M) c s = some (.inr (o, wof G' M', c', s'))) (hq : Q o G' M' c' s') : GoP RO d k L st G M pc c s Q := by
  refine ⟨o, G', M', c', s', F0, 1, ?_, hq⟩
  rw [mgo, hcd]
  simp only
  rw [hs]
theorem mstep0 {call : mF} {q : mCk × mSf} {W9 W' : List mE} (hq : mSt[op]? = some q) (hf : q.2 RO x v L st W9 = some (L', st', W')) : mstep RO call k pc (0, op, nx, x, v) L st W9 c s = some (.inl (L', st', W', nx, c, s)) := by
  unfold mstep
  simp only [show Nat.beq 0 0 = true from rfl, cond_true, hq, hf]
theorem mstep1 {call : mF} {q : mCc × mCf} {W9 : List mE} {tT tF : Nat} {b : Bool} (hq : mCt[op]? = some q) (hf : q.2 st = some (b, st')) : mstep RO call k pc (1, op, nx, [tT, tF], v) L st W9 c s = some (.inl (L, st', W9, bif b then tT else tF, c, s)) := by
  unfold mstep
  simp only [show Nat.beq 1 0 = false from rfl, show Nat.beq 1 1 = true from rfl, cond_true, cond_false, hq, hf]
  cases b <;> rfl
theorem mstep2 {call : mF} {q : mGc × mGf} {W9 W' : List mE} (hq : mGt[op]? = some q) (hf : q.2 RO x L st W9 = some (true, L', st', W')) : mstep RO call k pc (2, op, nx, x, v) L st W9 c s = some (.inl (L', st', W', nx, c, s)) := by
  unfold mstep
  simp only [show Nat.beq 2 0 = false from rfl, show Nat.beq 2 1 = false from rfl, show Nat.beq 2 2 = true from rfl, cond_true, cond_false, hq, hf]
theorem sf_put_eq {ci kf n t q : Nat} {u : Value} {r fs : List Value} {W9 : List mE} (hq : Nat.blt q 1000000 = true) (hv : vkt u t = true) (hg : W9[q]? = some (.inr (ci, fs))) (hk : kf < fs.length) : sf_putfield RO [ci, kf, n, t] v L (u :: .ref q :: r) W9 = some (L, r, W9.set q (.inr (ci, fs.set kf u))) := by
  have hlt := (List.getElem?_eq_some_iff.mp hg).1
  simp only [sf_putfield, hq, hv, Bool.and_self, cond_true, hg, show Nat.beq ci ci = true from Nat.beq_refl ci, show Nat.blt kf fs.length = true from Nat.ble_eq_true_of_le hk, mset_eq, if_pos hk, if_pos hlt]
theorem wS_sound (hcd : cd k pc = some (0, op, nx, x, v)) (h : wS RO op nx x v L st G M c s K) (hK : ∀ L' st' G' M' pc' c' s', K L' st' G' M' pc' c' s' → GoP RO d k L' st' G' M' pc' c' s' Q) : GoP RO d k L st G M pc c s Q := by
  unfold wS at h
  cases hb : (Nat.blt op 37 || Nat.blt 42 op) with
  | true =>
    rw [hb] at h
    simp only [cond_true] at h
    cases hq : mSt[op]? with
    | none => rw [hq] at h; exact h.elim
    | some q =>
      rw [hq] at h
      simp only at h
      split at h
      · rename_i L' st' W0 hf
        exact GoP.step 0 hcd (mstep0 hq (wi_at op q hq hb _ _ _ _ _ _ _ _ (wof G M) hf)) (hK _ _ _ _ _ _ _ h)
      · exact h.elim
  | false =>
  rw [hb] at h
  simp only [cond_false] at h
  have hb1 : 37 ≤ op ∧ op ≤ 42 := by
    rw [Bool.or_eq_false_iff] at hb
    constructor
    · exact Nat.le_of_not_lt (fun h9 => by rw [show Nat.blt op 37 = true from Nat.ble_eq_true_of_le h9] at hb; cases hb.1)
    · exact Nat.le_of_not_lt (fun h9 => by rw [show Nat.blt 42 op = true from Nat.ble_eq_true_of_le h9] at hb; cases hb.2)
  cases hb2 : Nat.blt op 39 with
  | true =>
    rw [hb2] at h
    simp only [cond_true] at h
    have hb2 : op < 39 := Nat.le_of_ble_eq_true hb2
    split at h
    · rename_i ci kf n q r
      split at h
      · rename_i u hu
        obtain ⟨fs, h1, h2⟩ := wget_ok hu
        rcases (show op = 37 ∨ op = 38 by omega) with rfl | rfl
        · exact GoP.step 0 hcd (mstep0 (q := (ck_getfield, sf_getfield)) rfl (by simp only [sf_getfield, h1, show Nat.beq ci ci = true from Nat.beq_refl ci, cond_true, h2])) (hK _ _ _ _ _ _ _ h)
        · exact GoP.step 0 hcd (mstep0 (q := (ck_getfieldN, sf_getfieldN)) rfl (by simp only [sf_getfieldN, h1, show Nat.beq ci ci = true from Nat.beq_refl ci, cond_true, h2])) (hK _ _ _ _ _ _ _ h)
      · exact h.elim
    · exact h.elim
  | false =>
  rw [hb2] at h
  simp only [cond_false] at h
  cases hb3 : Nat.blt op 42 with
  | true =>
    rw [hb3] at h
    simp only [cond_true] at h
    have hb3 : op < 42 := Nat.le_of_ble_eq_true hb3
    have hb2 : 39 ≤ op := Nat.le_of_not_lt (fun h9 => by rw [show Nat.blt op 39 = true from Nat.ble_eq_true_of_le h9] at hb2; cases hb2)
    split at h
    · rename_i ci kf n t u q r
      cases hb4 : (Nat.blt q 1000000 && vkt u t) with
      | false => rw [hb4] at h; exact h.elim
      | true =>
        rw [hb4] at h
        simp only [cond_true] at h
        rw [Bool.and_eq_true] at hb4
        split at h
        · rename_i cj fs hg
          cases hc : Nat.beq ci cj with
          | false => rw [hc] at h; exact h.elim
          | true =>
            rw [hc] at h
            simp only [cond_true] at h
            cases Nat.eq_of_beq_eq_true hc
            have hW : (wof G M)[q]? = some (.inr (ci, sfld (M q) 0 fs)) := by rw [wof_at, hg]; rfl
            have key : ∀ (G9 : List sh) (M9 : mM), kf < fs.length → (wof G M).set q (.inr (ci, (sfld (M q) 0 fs).set kf u)) = wof G9 M9 → K L r G9 M9 nx c s → GoP RO d k L (u :: .ref q :: r) G M pc c s Q := by
              intro G9 M9 hk he hk9
              have hp := sf_put_eq (RO := RO) (v := v) (L := L) (n := n) (r := r) hb4.1 hb4.2 hW (by rw [sfld_len]; exact hk)
              rw [he] at hp
              rcases (show op = 39 ∨ op = 40 ∨ op = 41 by omega) with rfl | rfl | rfl
              · exact GoP.step 0 hcd (mstep0 (q := (ck_putfield, sf_putfield)) rfl hp) (hK _ _ _ _ _ _ _ hk9)
              · exact GoP.step 0 hcd (mstep0 (q := (ck_putfieldN, sf_putfieldN)) rfl hp) (hK _ _ _ _ _ _ _ hk9)
              · exact GoP.step 0 hcd (mstep0 (q := (ck_putfieldF, sf_putfieldF)) rfl hp) (hK _ _ _ _ _ _ _ hk9)
            have keyR : ∀ w : Value, fs[kf]? = some w → (∀ a, u ≠ .int a) → K L r (G.set q (.inr (.inl (ci, fs.set kf u)))) M nx c s → GoP RO d k L (u :: .ref q :: r) G M pc c s Q := by
              intro w hw hu hk9
              refine key _ _ (List.getElem?_eq_some_iff.mp hw).1 ?_ hk9
              rw [sfld_setR hu]
              exact wof_setG (s := .inr (.inl (ci, fs.set kf u))) (List.getElem?_eq_some_iff.mp hg).1
            split at h
            · rename_i z a hz
              refine key _ _ (List.getElem?_eq_some_iff.mp hz).1 ?_ h
              rw [sfld_setI hz]
              exact wof_set (s := .inr (.inl (ci, fs))) (f := upd (M q) kf a) hg
            · exact h.elim
            · exact h.elim
            · rename_i w hw _ hno
              exact keyR _ hw (fun a e => hno a e) h
            · exact h.elim
        · exact h.elim
    · exact h.elim
  | false =>
    rw [hb3] at h
    simp only [cond_false] at h
    have hb3 : 42 ≤ op := Nat.le_of_not_lt (fun h9 => by rw [show Nat.blt op 42 = true from Nat.ble_eq_true_of_le h9] at hb3; cases hb3)
    have ho : op = 42 := by omega
    subst ho
    split at h
    · rename_i q r
      split at h
      · rename_i n hn
        obtain ⟨t, a, h1, h2⟩ := wlen_ok hn (M := M)
        exact GoP.step 0 hcd (mstep0 (q := (ck_alen, sf_alen)) rfl (by simp only [sf_alen, h1, h2, cond_true])) (hK _ _ _ _ _ _ _ h)
      · exact h.elim
    · exact h.elim
theorem wC_sound {tT tF : Nat} (hcd : cd k pc = some (1, op, nx, [tT, tF], v)) (h : wC op tT tF L st G M c s K) (hK : ∀ L' st' G' M' pc' c' s', K L' st' G' M' pc' c' s' → GoP RO d k L' st' G' M' pc' c' s' Q) : GoP RO d k L st G M pc c s Q := by
  have key : ∀ (q : mCc × mCf) (b : Bool) (r : List Value), mCt[op]? = some q → q.2 st = some (b, r) → (b = true → K L r G M tT c s) → (b = false → K L r G M tF c s) → GoP RO d k L st G M pc c s Q := by
    intro q b r hq hf kt kf
    refine GoP.step 0 hcd (mstep1 hq hf) ?_
    cases b with
    | true => exact hK _ _ _ _ _ _ _ (kt rfl)
    | false => exact hK _ _ _ _ _ _ _ (kf rfl)
  unfold wC at h
  cases h0 : Nat.beq op 0 with
  | true =>
    rw [h0] at h
    cases Nat.eq_of_beq_eq_true h0
    simp only [cond_true] at h
    split at h
    · rename_i x9 r9
      exact key (cc_ifeq, cf_ifeq) _ r9 rfl rfl (fun e => h.1 (of_decide_eq_true e)) (fun e => h.2 (of_decide_eq_false e))
    · exact h.elim
  | false =>
  rw [h0] at h
  simp only [cond_false] at h
  cases h1 : Nat.beq op 1 with
  | true =>
    rw [h1] at h
    cases Nat.eq_of_beq_eq_true h1
    simp only [cond_true] at h
    split at h
    · rename_i x9 r9
      exact key (cc_iflt, cf_iflt) _ r9 rfl rfl (fun e => h.1 (of_decide_eq_true e)) (fun e => h.2 (of_decide_eq_false e))
    · exact h.elim
  | false =>
  rw [h1] at h
  simp only [cond_false] at h
  cases h2 : Nat.beq op 2 with
  | true =>
    rw [h2] at h
    cases Nat.eq_of_beq_eq_true h2
    simp only [cond_true] at h
    split at h
    · rename_i x9 r9
      exact key (cc_ifgt, cf_ifgt) _ r9 rfl rfl (fun e => h.1 (of_decide_eq_true e)) (fun e => h.2 (of_decide_eq_false e))
    · exact h.elim
  | false =>
  rw [h2] at h
  simp only [cond_false] at h
  cases h3 : Nat.beq op 3 with
  | true =>
    rw [h3] at h
    cases Nat.eq_of_beq_eq_true h3
    simp only [cond_true] at h
    split at h
    · rename_i y9 x9 r9
      exact key (cc_icmpeq, cf_icmpeq) _ r9 rfl rfl (fun e => h.1 (of_decide_eq_true e)) (fun e => h.2 (of_decide_eq_false e))
    · exact h.elim
  | false =>
  rw [h3] at h
  simp only [cond_false] at h
  cases h4 : Nat.beq op 4 with
  | true =>
    rw [h4] at h
    cases Nat.eq_of_beq_eq_true h4
    simp only [cond_true] at h
    split at h
    · rename_i y9 x9 r9
      exact key (cc_icmplt, cf_icmplt) _ r9 rfl rfl (fun e => h.1 (of_decide_eq_true e)) (fun e => h.2 (of_decide_eq_false e))
    · exact h.elim
  | false =>
  rw [h4] at h
  simp only [cond_false] at h
  cases h5 : Nat.beq op 5 with
  | true =>
    rw [h5] at h
    cases Nat.eq_of_beq_eq_true h5
    simp only [cond_true] at h
    split at h
    · rename_i y9 x9 r9
      exact key (cc_icmpgt, cf_icmpgt) _ r9 rfl rfl (fun e => h.1 (of_decide_eq_true e)) (fun e => h.2 (of_decide_eq_false e))
    · exact h.elim
  | false =>
  rw [h5] at h
  simp only [cond_false] at h
  cases h6 : Nat.beq op 6 with
  | true =>
    rw [h6] at h
    cases Nat.eq_of_beq_eq_true h6
    simp only [cond_true] at h
    split at h
    · rename_i q9 r9
      exact key (cc_ifnull, cf_ifnull) false r9 rfl rfl (fun e => by cases e) (fun _ => h)
    · rename_i r9
      exact key (cc_ifnull, cf_ifnull) true r9 rfl rfl (fun _ => h) (fun e => by cases e)
    · exact h.elim
  | false =>
  rw [h6] at h
  exact h.elim
end SND
