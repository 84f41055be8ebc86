/-! more fuel, deeper calls: the same answer -/
def mLeF (c1 c2 : mF) : Prop := ∀ (k : Nat) (as : List Value) (W9 : List mE) (r : mR), c1 k as W9 = some r → c2 k as W9 = some r
theorem mcal_le {RO : List mE} {c1 c2 : mF} (h12 : mLeF c1 c2) {k pc nx mode k9 : Nat} {r9 : List Nat} {as r L : List Value} {W9 : List mE} {c s : Nat} {a : mAct} (h : mcal RO c1 k pc nx mode k9 r9 as r L W9 c s = some a) : mcal RO c2 k pc nx mode k9 r9 as r L W9 c s = some a := by
  unfold mcal at h ⊢
  cases hb9 : (mcs r && mrecv RO W9 mode as r9) with
  | false => rw [hb9] at h; cases h
  | true =>
    rw [hb9] at h
    simp only [cond_true] at h ⊢
    cases hca : c1 k9 as W9 with
    | none => rw [hca] at h; cases h
    | some res =>
      rw [hca] at h
      rw [h12 _ _ _ _ hca]
      exact h
theorem mstep_le {RO : List mE} {c1 c2 : mF} (h12 : mLeF c1 c2) {k pc : Nat} {I : mI} {L st : List Value} {W9 : List mE} {c s : Nat} {a : mAct} (h : mstep RO c1 k pc I L st W9 c s = some a) : mstep RO c2 k pc I L st W9 c s = some a := by
  obtain ⟨g, op, nx, x, v⟩ := I
  cases g7 : Nat.beq g 7 with
  | false =>
    have e : ∀ cc : mF, mstep RO cc k pc (g, op, nx, x, v) L st W9 c s = mstep RO (fun _ _ _ => none) k pc (g, op, nx, x, v) L st W9 c s := by
      intro cc
      unfold mstep
      simp only [g7, cond_false]
    rw [e] at h ⊢
    exact h
  | true =>
    cases Nat.eq_of_beq_eq_true g7
    unfold mstep at h ⊢
    simp only [show Nat.beq 7 0 = false from rfl, show Nat.beq 7 1 = false from rfl, show Nat.beq 7 2 = false from rfl, show Nat.beq 7 3 = false from rfl, show Nat.beq 7 4 = false from rfl, show Nat.beq 7 5 = false from rfl, show Nat.beq 7 6 = false from rfl, show Nat.beq 7 7 = true from rfl, cond_true, cond_false] at h ⊢
    split at h
    · rename_i mode k9 na z n1 n2 n3 n4 r9
      cases hb : Nat.ble (mna mode na) st.length with
      | false => rw [hb] at h; cases h
      | true =>
        rw [hb] at h
        simp only [cond_true] at h ⊢
        exact mcal_le h12 h
    · cases h
theorem mgo_le {RO : List mE} {c1 c2 : mF} (h12 : mLeF c1 c2) {k : Nat} : ∀ (n1 n2 : Nat), n1 ≤ n2 → ∀ (L st : List Value) (W9 : List mE) (pc c s : Nat) (r : mR), mgo RO c1 k n1 L st W9 pc c s = some r → mgo RO c2 k n2 L st W9 pc c s = some r := by
  intro n1
  induction n1 with
  | zero => intro n2 _ L st W9 pc c s r h; cases h
  | succ n1 ih =>
    intro n2 hn L st W9 pc c s r h
    cases n2 with
    | zero => omega
    | succ n2 =>
      rw [mgo] at h ⊢
      cases hc : cd k pc with
      | none => rw [hc] at h; cases h
      | some I =>
        rw [hc] at h
        simp only at h ⊢
        cases hs : mstep RO c1 k pc I L st W9 c s with
        | none => rw [hs] at h; cases h
        | some a =>
          rw [hs] at h
          rw [mstep_le h12 hs]
          cases a with
          | inr r9 => exact h
          | inl t =>
            obtain ⟨L', st', W', pc', c', s'⟩ := t
            exact ih n2 (by omega) L' st' W' pc' c' s' r h
theorem mrun_le (RO : List mE) : ∀ (d1 d2 f1 f2 : Nat), d1 ≤ d2 → f1 ≤ f2 → mLeF (mrun RO f1 d1) (mrun RO f2 d2) := by
  intro d1
  induction d1 with
  | zero => intro d2 f1 f2 _ _ k as W9 r h; cases h
  | succ d1 ih =>
    intro d2 f1 f2 hd hf k as W9 r h
    cases d2 with
    | zero => omega
    | succ d2 =>
      rw [mrun_s] at h ⊢
      cases hb : Nat.beq k 287 with
      | true =>
        rw [hb] at h
        exact h
      | false =>
        rw [hb] at h
        simp only [cond_false] at h ⊢
        cases hb2 : (Nat.blt k 375 && mcat1 as && Nat.ble as.length (mml k)) with
        | false => rw [hb2] at h; cases h
        | true =>
          rw [hb2] at h
          simp only [cond_true] at h ⊢
          exact mgo_le (ih d2 f1 f2 (by omega) hf) f1 f2 hf _ _ _ _ _ _ _ h
