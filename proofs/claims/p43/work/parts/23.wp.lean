/-! the world as numbers at places: shapes and contents -/
abbrev sh : Type := (Nat × Nat) ⊕ ((Nat × List Value) ⊕ mE)
abbrev mM : Type := Nat → Nat → Int32
abbrev mQ : Type := mO → List sh → mM → Nat → Nat → Prop
def sfld (f : Nat → Int32) : Nat → List Value → List Value
  | _, [] => []
  | i, v :: l => (match v with
    | .int _ => .int (f i)
    | v => v) :: sfld f (i + 1) l
def scell (s : sh) (f : Nat → Int32) : mE := match s with
  | .inl (t, n) => bif Nat.beq t 4 then .inl (4, n, .inr (.inl (fun i => (f i).toInt64))) else bif Nat.beq t 5 then .inl (5, n, .inr (.inr (.inr (.inl (fun i => FP.f2d (f i).toUInt32))))) else .inl (t, n, .inl f)
  | .inr (.inl (ci, fs)) => .inr (ci, sfld f 0 fs)
  | .inr (.inr e) => e
def wof (G : List sh) (M : mM) : List mE := G.mapIdx (fun j s => scell s (M j))
def upM (M : mM) (q : Nat) (f : Nat → Int32) : mM := fun j => bif Nat.beq j q then f else M j
theorem nbf {a b : Nat} (h : a ≠ b) : Nat.beq a b = false := by
  cases hb : Nat.beq a b with
  | false => rfl
  | true => exact absurd (Nat.eq_of_beq_eq_true hb) h
theorem wof_at (G : List sh) (M : mM) (q : Nat) : (wof G M)[q]? = (G[q]?).map (fun s => scell s (M q)) := by rw [wof, List.getElem?_mapIdx]
theorem wof_len (G : List sh) (M : mM) : (wof G M).length = G.length := by rw [wof, List.length_mapIdx]
theorem wof_set {G : List sh} {M : mM} {q : Nat} {s : sh} {f : Nat → Int32} (hs : G[q]? = some s) : (wof G M).set q (scell s f) = wof G (upM M q f) := by
  apply List.ext_getElem?
  intro j
  rw [List.getElem?_set, wof_at, wof_at]
  by_cases h : q = j
  · subst h
    rw [if_pos rfl, wof_len, if_pos (List.getElem?_eq_some_iff.mp hs).1, hs]
    show some (scell s f) = some (scell s (upM M q f q))
    rw [upM, show Nat.beq q q = true from Nat.beq_refl q]; rfl
  · rw [if_neg h, upM, show Nat.beq j q = false from nbf (fun e => h e.symm)]; rfl
theorem wof_setG {G : List sh} {M : mM} {q : Nat} {s : sh} (hq : q < G.length) : (wof G M).set q (scell s (M q)) = wof (G.set q s) M := by
  apply List.ext_getElem?
  intro j
  rw [List.getElem?_set, wof_at, wof_at, List.getElem?_set]
  by_cases h : q = j
  · subst h
    rw [if_pos rfl, wof_len, if_pos hq, if_pos rfl, if_pos hq]; rfl
  · rw [if_neg h, if_neg h]
theorem wof_push {G : List sh} {M : mM} {s : sh} {f : Nat → Int32} : wof G M ++ [scell s f] = wof (G ++ [s]) (upM M G.length f) := by
  apply List.ext_getElem?
  intro j
  rw [wof_at]
  by_cases h : j < G.length
  · rw [List.getElem?_append_left (by rw [wof_len]; exact h), List.getElem?_append_left h, wof_at, upM, show Nat.beq j G.length = false from nbf (by omega)]; rfl
  · rw [List.getElem?_append_right (by rw [wof_len]; omega), List.getElem?_append_right (by omega), wof_len]
    by_cases h2 : j = G.length
    · subst h2
      simp [upM]
    · have h3 : 1 ≤ j - G.length := by omega
      rw [List.getElem?_eq_none (by simpa using h3), List.getElem?_eq_none (by simpa using h3)]; rfl
theorem sfld_at (f : Nat → Int32) : ∀ (fs : List Value) (o k : Nat), (sfld f o fs)[k]? = (fs[k]?).map (fun v => match v with
    | .int _ => .int (f (o + k))
    | v => v) := by
  intro fs
  induction fs with
  | nil => intro o k; simp [sfld]
  | cons a fs ih =>
    intro o k
    cases k with
    | zero => rfl
    | succ k =>
      show (_ :: sfld f (o + 1) fs)[k + 1]? = _
      rw [List.getElem?_cons_succ, List.getElem?_cons_succ, ih, show o + 1 + k = o + (k + 1) by omega]
theorem sfld_len (f : Nat → Int32) : ∀ (fs : List Value) (o : Nat), (sfld f o fs).length = fs.length := by
  intro fs
  induction fs with
  | nil => intro o; rfl
  | cons a fs ih => intro o; show (_ :: sfld f (o + 1) fs).length = _; rw [List.length_cons, List.length_cons, ih]
theorem sfld_setI {f : Nat → Int32} {fs : List Value} {k : Nat} {z x : Int32} (h : fs[k]? = some (.int z)) : (sfld f 0 fs).set k (.int x) = sfld (upd f k x) 0 fs := by
  apply List.ext_getElem?
  intro j
  rw [List.getElem?_set, sfld_at, sfld_at, sfld_len]
  by_cases hj : k = j
  · subst hj
    rw [if_pos rfl, if_pos (List.getElem?_eq_some_iff.mp h).1, h]
    simp [upd]
  · rw [if_neg hj]
    cases hv : fs[j]? with
    | none => rfl
    | some v =>
      cases v with
      | int a => simp [upd, show ¬ j = k from fun e => hj e.symm]
      | _ => rfl
theorem sfld_setR {f : Nat → Int32} {fs : List Value} {k : Nat} {v : Value} (hv : ∀ a, v ≠ .int a) : (sfld f 0 fs).set k v = sfld f 0 (fs.set k v) := by
  apply List.ext_getElem?
  intro j
  rw [List.getElem?_set, sfld_at, sfld_at, sfld_len, List.getElem?_set]
  by_cases hj : k = j
  · subst hj
    rw [if_pos rfl, if_pos rfl]
    by_cases hl : k < fs.length
    · rw [if_pos hl]
      cases v with
      | int a => exact absurd rfl (hv a)
      | _ => rfl
    · rw [if_neg hl]; rfl
  · rw [if_neg hj, if_neg hj]
/-! what a method does, what is left of it -/
def EvP (RO : List mE) (d k : Nat) (as : List Value) (G : List sh) (M : mM) (Q : mQ) : Prop := ∃ (o : mO) (G' : List sh) (M' : mM) (mc ms F : Nat), mrun RO F d k as (wof G M) = some (o, wof G' M', mc, ms) ∧ Q o G' M' mc ms
def GoP (RO : List mE) (d k : Nat) (L st : List Value) (G : List sh) (M : mM) (pc c s : Nat) (Q : mQ) : Prop := ∃ (o : mO) (G' : List sh) (M' : mM) (mc ms F n : Nat), mgo RO (mrun RO F d) k n L st (wof G M) pc c s = some (o, wof G' M', mc, ms) ∧ Q o G' M' mc ms
theorem EvP.conseq {RO : List mE} {d k : Nat} {as : List Value} {G : List sh} {M : mM} {Q Q' : mQ} (h : EvP RO d k as G M Q) (hq : ∀ o G' M' mc ms, Q o G' M' mc ms → Q' o G' M' mc ms) : EvP RO d k as G M Q' := by
  obtain ⟨o, G', M', mc, ms, F, h1, h2⟩ := h
  exact ⟨o, G', M', mc, ms, F, h1, hq _ _ _ _ _ h2⟩
theorem GoP.conseq {RO : List mE} {d k : Nat} {L st : List Value} {G : List sh} {M : mM} {pc c s : Nat} {Q Q' : mQ} (h : GoP RO d k L st G M pc c s Q) (hq : ∀ o G' M' mc ms, Q o G' M' mc ms → Q' o G' M' mc ms) : GoP RO d k L st G M pc c s Q' := by
  obtain ⟨o, G', M', mc, ms, F, n, h1, h2⟩ := h
  exact ⟨o, G', M', mc, ms, F, n, h1, hq _ _ _ _ _ h2⟩
/-- a method that answers v and leaves the world with the contents M' -/
def EvR (RO : List mE) (d k : Nat) (as : List Value) (G : List sh) (M : mM) (v : Option Value) (M' : mM) : Prop := EvP RO d k as G M (fun o G2 M2 mc ms => o = .inl v ∧ G2 = G ∧ M2 = M' ∧ mc = 0 ∧ ms = 0)
theorem EvR.use {RO : List mE} {d k : Nat} {as : List Value} {G : List sh} {M M' : mM} {v : Option Value} {Q : mQ} (h : EvR RO d k as G M v M') (hq : Q (.inl v) G M' 0 0) : EvP RO d k as G M Q :=
  EvP.conseq h (fun o G' M2 mc ms ⟨h1, h2, h3, h4, h5⟩ => by subst h1 h2 h3 h4 h5; exact hq)
theorem EvP.up {RO : List mE} {d d' k : Nat} {as : List Value} {G : List sh} {M : mM} {Q : mQ} (h : EvP RO d k as G M Q) (hd : d ≤ d') : EvP RO d' k as G M Q := by
  obtain ⟨o, G', M', mc, ms, F, h1, h2⟩ := h
  exact ⟨o, G', M', mc, ms, F, mrun_le RO d d' F F hd (Nat.le_refl _) _ _ _ _ h1, h2⟩
/-! reading -/
def wget (RO : List mE) (G : List sh) (M : mM) (ci kf q : Nat) : Option Value := bif Nat.blt q 1000000 then (match G[q]? with
    | some (.inr (.inl (cj, fs))) => bif Nat.beq ci cj then (match fs[kf]? with
      | some (.int _) => some (.int (M q kf))
      | o => o) else none
    | _ => none) else (match RO[q - 1000000]? with
    | some (.inr (cj, fs)) => bif Nat.beq ci cj then fs[kf]? else none
    | _ => none)
def wrd (RO : List mE) (G : List sh) (M : mM) (q : Nat) : Option (Nat × Nat × (Nat → Int32)) := bif Nat.blt q 1000000 then (match G[q]? with
    | some (.inl (t, n)) => bif Nat.beq t 4 || Nat.beq t 5 then none else some (t, n, M q)
    | _ => none) else (match RO[q - 1000000]? with
    | some (.inl (t, n, .inl f)) => some (t, n, f)
    | _ => none)
def wlen (RO : List mE) (G : List sh) (q : Nat) : Option Nat := bif Nat.blt q 1000000 then (match G[q]? with
    | some (.inl (t, n)) => bif Nat.blt t 4 then some n else none
    | some (.inr (.inr (.inl (t, n, _)))) => bif Nat.blt t 4 then some n else none
    | _ => none) else (match RO[q - 1000000]? with
    | some (.inl (t, n, _)) => bif Nat.blt t 4 then some n else none
    | _ => none)
theorem wget_ok {RO : List mE} {G : List sh} {M : mM} {ci kf q : Nat} {v : Value} (h : wget RO G M ci kf q = some v) : ∃ fs, mget RO (wof G M) q = some (.inr (ci, fs)) ∧ fs[kf]? = some v := by
  unfold wget at h
  unfold mget
  cases hb : Nat.blt q 1000000 with
  | true =>
    rw [hb] at h
    simp only [cond_true] at h ⊢
    rw [wof_at]
    split at h
    · rename_i cj fs hg
      cases hc : Nat.beq ci cj with
      | false => rw [hc] at h; cases h
      | true =>
        rw [hc] at h
        cases Nat.eq_of_beq_eq_true hc
        rw [hg]
        refine ⟨sfld (M q) 0 fs, rfl, ?_⟩
        rw [sfld_at]
        simp only [cond_true] at h
        split at h
        · rename_i z hz
          cases h
          rw [hz, Nat.zero_add]; rfl
        · rename_i hno
          rw [h]
          cases v with
          | int a => exact absurd h (hno a)
          | _ => rfl
    · cases h
  | false =>
    rw [hb] at h
    simp only [cond_false] at h ⊢
    split at h
    · rename_i cj fs hg
      cases hc : Nat.beq ci cj with
      | false => rw [hc] at h; cases h
      | true =>
        rw [hc] at h
        cases Nat.eq_of_beq_eq_true hc
        rw [hg]
        exact ⟨fs, rfl, h⟩
    · cases h
theorem wrd_ok {RO : List mE} {G : List sh} {M : mM} {q t n : Nat} {f : Nat → Int32} (h : wrd RO G M q = some (t, n, f)) : mget RO (wof G M) q = some (.inl (t, n, .inl f)) := by
  unfold wrd at h
  unfold mget
  cases hb : Nat.blt q 1000000 with
  | true =>
    rw [hb] at h
    simp only [cond_true] at h ⊢
    rw [wof_at]
    split at h
    · rename_i t' n' hg
      cases hc : (Nat.beq t' 4 || Nat.beq t' 5) with
      | true => rw [hc] at h; cases h
      | false =>
        rw [hc] at h
        cases h
        rw [hg]
        simp only [Bool.or_eq_false_iff] at hc
        show some (scell (.inl (t, n)) (M q)) = _
        simp only [scell, hc.1, hc.2, cond_false]
    · cases h
  | false =>
    rw [hb] at h
    simp only [cond_false] at h ⊢
    split at h
    · rename_i t' n' f' hg
      cases h
      exact hg
    · cases h
theorem wlen_ok {RO : List mE} {G : List sh} {M : mM} {q n : Nat} (h : wlen RO G q = some n) : ∃ t a, mget RO (wof G M) q = some (.inl (t, n, a)) ∧ Nat.blt t 4 = true := by
  unfold wlen at h
  unfold mget
  cases hb : Nat.blt q 1000000 with
  | true =>
    rw [hb] at h
    simp only [cond_true] at h ⊢
    rw [wof_at]
    split at h
    · rename_i t' n' hg
      cases hc : Nat.blt t' 4 with
      | false => rw [hc] at h; cases h
      | true =>
        rw [hc] at h
        cases h
        rw [hg]
        show ∃ t a, some (scell (.inl (t', n)) (M q)) = some (.inl (t, n, a)) ∧ _
        cases h4 : Nat.beq t' 4 with
        | true => rw [Nat.eq_of_beq_eq_true h4] at hc; cases hc
        | false =>
          cases h5 : Nat.beq t' 5 with
          | true => rw [Nat.eq_of_beq_eq_true h5] at hc; cases hc
          | false => exact ⟨t', .inl (M q), by simp only [scell, h4, h5, cond_false], hc⟩
    · rename_i t' n' a' hg
      cases hc : Nat.blt t' 4 with
      | false => rw [hc] at h; cases h
      | true =>
        rw [hc] at h
        cases h
        rw [hg]
        exact ⟨t', a', rfl, hc⟩
    · cases h
  | false =>
    rw [hb] at h
    simp only [cond_false] at h ⊢
    split at h
    · rename_i t' n' a' hg
      cases hc : Nat.blt t' 4 with
      | false => rw [hc] at h; cases h
      | true =>
        rw [hc] at h
        cases h
        rw [hg]
        exact ⟨t', a', rfl, hc⟩
    · cases h
