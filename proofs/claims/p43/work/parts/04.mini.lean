/-! A small machine: the bytecode of the claim's methods, run over a world of cells at places (not addresses); what it answers, the JVM answers. -/
abbrev mE : Type := (Nat × vp_A) ⊕ (Nat × List Value)
abbrev mI : Type := Nat × Nat × Nat × List Nat × Value
abbrev mO : Type := (Option Value) ⊕ Nat
abbrev mR : Type := mO × List mE × Nat × Nat
def mset {α : Type} {ρ : Type} : List α → Nat → α → (List α → ρ) → ρ → ρ
  | [], _, _, _, d => d
  | _ :: l, 0, e, k, _ => k (e :: l)
  | a :: l, i + 1, e, k, d => mset l i e (fun l' => k (a :: l')) d
theorem mset_eq {α ρ : Type} : ∀ (l : List α) (i : Nat) (e : α) (k : List α → ρ) (d : ρ), mset l i e k d = if i < l.length then k (l.set i e) else d := by
  intro l
  induction l with
  | nil => intro i e k d; simp [mset]
  | cons a l ih =>
    intro i e k d
    cases i with
    | zero => simp [mset]
    | succ i =>
      rw [mset, ih]
      by_cases h : i < l.length
      · rw [if_pos h, if_pos (by simpa using h), List.set_cons_succ]
      · rw [if_neg h, if_neg (by simpa using h)]
/-- places below a million are the world's, the others those of what is only read -/
def mz (adR ad : Nat → Nat) (q : Nat) : Nat := bif Nat.blt q 1000000 then ad q else adR (q - 1000000)
def mget (RO W9 : List mE) (q : Nat) : Option mE := bif Nat.blt q 1000000 then W9[q]? else RO[q - 1000000]?
def cz (z : Nat → Nat) : Value → Value
  | .int a => .int a
  | .long a => .long a
  | .float a => .float a
  | .double a => .double a
  | .null => .null
  | .ref q => .ref (z q)
  | .retAddr t => .retAddr t
theorem cz_cat (z : Nat → Nat) (v : Value) : (cz z v).category = v.category := by cases v <;> rfl
theorem cz_cats (z : Nat → Nat) (l : List Value) : ((l.map (cz z)).map fun v => v.category).sum = (l.map fun v => v.category).sum := by
  rw [List.map_map]
  congr 1
  exact List.map_congr_left (fun v _ => cz_cat z v)
def czA (z : Nat → Nat) (a : vp_A) : vp_A := (a.1, match a.2 with
  | .inl f => .inl f
  | .inr (.inl f) => .inr (.inl f)
  | .inr (.inr (.inl f)) => .inr (.inr (.inl f))
  | .inr (.inr (.inr (.inl f))) => .inr (.inr (.inr (.inl f)))
  | .inr (.inr (.inr (.inr f))) => .inr (.inr (.inr (.inr (fun i => (f i).map z)))))
def czE (dA : Nat → ClassId) (z : Nat → Nat) : mE → va_E
  | .inl (t, a) => .inl (dA t, czA z a)
  | .inr (ci, fs) => .inr (ci, fs.map (cz z))
def cw (dA : Nat → ClassId) (z ad : Nat → Nat) (W9 : List mE) : va_W := W9.mapIdx (fun j e => (ad j, czE dA z e))
theorem cw_at (dA : Nat → ClassId) (z ad : Nat → Nat) (W9 : List mE) (j : Nat) : (cw dA z ad W9)[j]? = (W9[j]?).map (fun e => (ad j, czE dA z e)) := by
  rw [cw, List.getElem?_mapIdx]
theorem cw_set (dA : Nat → ClassId) (z ad : Nat → Nat) (W9 : List mE) (q : Nat) (e : mE) : (cw dA z ad W9).set q (ad q, czE dA z e) = cw dA z ad (W9.set q e) := by
  apply List.ext_getElem?
  intro j
  rw [cw_at, List.getElem?_set, List.getElem?_set, cw_at]
  by_cases h : q = j
  · subst h
    simp only [if_true]
    by_cases h2 : q < W9.length
    · rw [if_pos (by simpa [cw] using h2), if_pos h2]; rfl
    · rw [if_neg (by simpa [cw] using h2), if_neg h2]; rfl
  · rw [if_neg h, if_neg h]
def nret : Value → Bool
  | .retAddr _ => false
  | _ => true
/-- the locals: what stands at each place; a returnAddress stands for what isn't known -/
def lz (z : Nat → Nat) (ls : Array Slot) (nL : Nat) (L : List Value) : Prop := ls.size = nL ∧ lv_wf ls ∧ ∀ (i : Nat) (v : Value), L[i]? = some v → nret v = true → ls[i]? = some (.val (cz z v))
def lqq (z : Nat → Nat) : Nat → List Value → List (Nat × Value)
  | _, [] => []
  | i, v :: l => if nret v = true then (i, cz z v) :: lqq z (i + 1) l else lqq z (i + 1) l
theorem lqq_mem (z : Nat → Nat) : ∀ (l : List Value) (o : Nat) (q : Nat × Value), q ∈ lqq z o l ↔ ∃ (j : Nat) (v : Value), l[j]? = some v ∧ nret v = true ∧ q = (o + j, cz z v) := by
  intro l
  induction l with
  | nil => intro o q; simp [lqq]
  | cons a l ih =>
    intro o q
    constructor
    · intro h
      rw [lqq] at h
      by_cases hn : nret a = true
      · rw [if_pos hn] at h
        rcases List.mem_cons.mp h with h | h
        · exact ⟨0, a, rfl, hn, h⟩
        · obtain ⟨j, v, h1, h2, h3⟩ := (ih _ _).mp h
          exact ⟨j + 1, v, h1, h2, by rw [h3]; congr 1; omega⟩
      · rw [if_neg hn] at h
        obtain ⟨j, v, h1, h2, h3⟩ := (ih _ _).mp h
        exact ⟨j + 1, v, h1, h2, by rw [h3]; congr 1; omega⟩
    · rintro ⟨j, v, h1, h2, h3⟩
      rw [lqq]
      cases j with
      | zero =>
        cases h1
        rw [if_pos h2, h3]
        exact List.mem_cons_self
      | succ j =>
        have h4 : q ∈ lqq z (o + 1) l := (ih _ _).mpr ⟨j, v, h1, h2, by rw [h3]; congr 1; omega⟩
        by_cases hn : nret a = true
        · rw [if_pos hn]; exact List.mem_cons_of_mem _ h4
        · rw [if_neg hn]; exact h4
theorem lz_has {z : Nat → Nat} {ls : Array Slot} {nL : Nat} {L : List Value} (h : lz z ls nL L) : lv_has ls nL (lqq z 0 L) := by
  refine ⟨h.1, h.2.1, fun q hq => ?_⟩
  obtain ⟨j, v, h1, h2, h3⟩ := (lqq_mem z L 0 q).mp hq
  rw [h3]
  simpa using h.2.2 j v h1 h2
/-- no wide value just below the place i -/
def okp (L : List Value) (i : Nat) : Bool := match i with
  | 0 => true
  | j + 1 => match L[j]? with
    | some v => Nat.ble v.category 1
    | none => true
theorem lz_set {z : Nat → Nat} {ls ls' : Array Slot} {nL i : Nat} {L : List Value} {v : Value} (h : lz z ls nL L) (hp : okp L i = true) (hv : v.category = 1)
    (h' : lv_has ls' nL ((i, cz z v) :: (lqq z 0 L).filter (fun q => !(q.1 == i) && !(q.1 + 1 == i && q.2.category == 2)))) : lz z ls' nL (L.set i v) := by
  refine ⟨h'.1, h'.2.1, fun j u hu hn => ?_⟩
  rw [List.getElem?_set] at hu
  by_cases hij : i = j
  · subst hij
    rw [if_pos rfl] at hu
    by_cases hl : i < L.length
    · rw [if_pos hl] at hu
      cases hu
      exact h'.2.2 (i, cz z v) List.mem_cons_self
    · rw [if_neg hl] at hu; cases hu
  · rw [if_neg hij] at hu
    refine h'.2.2 (j, cz z u) (List.mem_cons_of_mem _ (List.mem_filter.mpr ⟨(lqq_mem z L 0 _).mpr ⟨j, u, hu, hn, by simp⟩, ?_⟩))
    have h1 : (j == i) = false := by simpa using fun e => hij e.symm
    have h2 : (j + 1 == i && (cz z u).category == 2) = false := by
      rw [cz_cat]
      by_cases e : j + 1 = i
      · subst e
        rw [okp, hu] at hp
        have := Nat.le_of_ble_eq_true hp
        have h3 : (u.category == 2) = false := by simp; omega
        rw [h3, Bool.and_false]
      · have h3 : (j + 1 == i) = false := by simpa using e
        rw [h3, Bool.false_and]
    show (!(j == i) && !(j + 1 == i && (cz z u).category == 2)) = true
    rw [h1, h2]; rfl
theorem lz_set2 {z : Nat → Nat} {ls ls' : Array Slot} {nL i : Nat} {L : List Value} {v : Value} (h : lz z ls nL L) (hp : okp L i = true)
    (h' : lv_has ls' nL ((i, cz z v) :: (lqq z 0 L).filter (fun q => !(q.1 == i) && (!(q.1 == i + 1) && !(q.1 + 1 == i && q.2.category == 2))))) : lz z ls' nL ((L.set i v).set (i + 1) (.retAddr 0)) := by
  refine ⟨h'.1, h'.2.1, fun j u hu hn => ?_⟩
  rw [List.getElem?_set] at hu
  by_cases hij1 : i + 1 = j
  · rw [if_pos hij1] at hu
    split at hu
    · cases hu; exact absurd hn (by decide)
    · cases hu
  rw [if_neg hij1, List.getElem?_set] at hu
  by_cases hij : i = j
  · subst hij
    rw [if_pos rfl] at hu
    by_cases hl : i < L.length
    · rw [if_pos hl] at hu
      cases hu
      exact h'.2.2 (i, cz z v) List.mem_cons_self
    · rw [if_neg hl] at hu; cases hu
  · rw [if_neg hij] at hu
    refine h'.2.2 (j, cz z u) (List.mem_cons_of_mem _ (List.mem_filter.mpr ⟨(lqq_mem z L 0 _).mpr ⟨j, u, hu, hn, by simp⟩, ?_⟩))
    have h1 : (j == i) = false := by simpa using fun e => hij e.symm
    have h0 : (j == i + 1) = false := by simpa using fun e => hij1 e.symm
    have h2 : (j + 1 == i && (cz z u).category == 2) = false := by
      rw [cz_cat]
      by_cases e : j + 1 = i
      · subst e
        rw [okp, hu] at hp
        have := Nat.le_of_ble_eq_true hp
        have h3 : (u.category == 2) = false := by simp; omega
        rw [h3, Bool.and_false]
      · have h3 : (j + 1 == i) = false := by simpa using e
        rw [h3, Bool.false_and]
    show (!(j == i) && (!(j == i + 1) && !(j + 1 == i && (cz z u).category == 2))) = true
    rw [h1, h0, h2]; rfl
theorem lz_at {z : Nat → Nat} {ls : Array Slot} {nL i : Nat} {L : List Value} {v : Value} (h : lz z ls nL L) (hv : L[i]? = some v) (hn : nret v = true) : ls[i]? = some (.val (cz z v)) := h.2.2 i v hv hn
/-- all places in range -/
def wv (n : Nat) (l : List Value) : Prop := ∀ v ∈ l, ∀ r, v = .ref r → r < n ∨ 1000000 ≤ r
def wE (n : Nat) : mE → Prop
  | .inl (_, a) => match a.2 with
    | .inr (.inr (.inr (.inr f))) => ∀ i r, f i = some r → r < n ∨ 1000000 ≤ r
    | _ => True
  | .inr (_, fs) => wv n fs
def wW (n : Nat) (W9 : List mE) : Prop := ∀ e ∈ W9, wE n e
theorem wv_tail {n : Nat} {a : Value} {l : List Value} (h : wv n (a :: l)) : wv n l := fun v hv => h v (List.mem_cons_of_mem _ hv)
theorem wv_cons {n : Nat} {a : Value} {l : List Value} (ha : ∀ r, a = .ref r → r < n ∨ 1000000 ≤ r) (h : wv n l) : wv n (a :: l) := fun v hv => by
  rcases List.mem_cons.mp hv with e | e
  · rw [e]; exact ha
  · exact h v e
theorem wv_int {n : Nat} {a : Int32} {l : List Value} (h : wv n l) : wv n (.int a :: l) := wv_cons (fun _ e => by cases e) h
theorem wv_set {n : Nat} {l : List Value} {i : Nat} {a : Value} (ha : ∀ r, a = .ref r → r < n ∨ 1000000 ≤ r) (h : wv n l) : wv n (l.set i a) := fun v hv => by
  rcases List.mem_or_eq_of_mem_set hv with e | e
  · exact h v e
  · rw [e]; exact ha
theorem wW_set {n : Nat} {l : List mE} {i : Nat} {a : mE} (ha : wE n a) (h : wW n l) : wW n (l.set i a) := fun v hv => by
  rcases List.mem_or_eq_of_mem_set hv with e | e
  · exact h v e
  · rw [e]; exact ha
theorem wv_get {n : Nat} {l : List Value} {i : Nat} {v : Value} (h : wv n l) (hv : l[i]? = some v) : ∀ r, v = .ref r → r < n ∨ 1000000 ≤ r := h v (List.mem_of_getElem? hv)
theorem wW_get {n : Nat} {l : List mE} {i : Nat} {v : mE} (h : wW n l) (hv : l[i]? = some v) : wE n v := h v (List.mem_of_getElem? hv)
theorem mz_eq {n : Nat} (hn : n ≤ 1000000) {adR ad ad' : Nat → Nat} (h : ∀ j, j < n → ad' j = ad j) {r : Nat} (hr : r < n ∨ 1000000 ≤ r) : mz adR ad' r = mz adR ad r := by
  unfold mz
  cases hb : Nat.blt r 1000000 with
  | false => rfl
  | true =>
    have h1 : r < 1000000 := by
      have := Nat.le_of_ble_eq_true hb
      omega
    exact h r (by omega)
theorem cz_eq {n : Nat} (hn : n ≤ 1000000) {adR ad ad' : Nat → Nat} (h : ∀ j, j < n → ad' j = ad j) {v : Value} (hv : ∀ r, v = .ref r → r < n ∨ 1000000 ≤ r) : cz (mz adR ad') v = cz (mz adR ad) v := by
  cases v with
  | ref r => exact congrArg Value.ref (mz_eq hn h (hv r rfl))
  | _ => rfl
theorem czs_eq {n : Nat} (hn : n ≤ 1000000) {adR ad ad' : Nat → Nat} (h : ∀ j, j < n → ad' j = ad j) {l : List Value} (hl : wv n l) : l.map (cz (mz adR ad')) = l.map (cz (mz adR ad)) :=
  List.map_congr_left (fun v hv => cz_eq hn h (hl v hv))
theorem czE_eq {n : Nat} (hn : n ≤ 1000000) {dA : Nat → ClassId} {adR ad ad' : Nat → Nat} (h : ∀ j, j < n → ad' j = ad j) {e : mE} (he : wE n e) : czE dA (mz adR ad') e = czE dA (mz adR ad) e := by
  rcases e with ⟨t, m9, a⟩ | ⟨ci, fs⟩
  · rcases a with f | f | f | f | f
    · rfl
    · rfl
    · rfl
    · rfl
    · have h2 : ∀ i r, f i = some r → r < n ∨ 1000000 ≤ r := he
      have h3 : (fun i => (f i).map (mz adR ad')) = (fun i => (f i).map (mz adR ad)) := by
        funext i
        cases hf : f i with
        | none => rfl
        | some r => exact congrArg some (mz_eq hn h (h2 i r hf))
      show Sum.inl (dA t, (m9, Sum.inr (Sum.inr (Sum.inr (Sum.inr (fun i => (f i).map (mz adR ad'))))))) = Sum.inl (dA t, (m9, Sum.inr (Sum.inr (Sum.inr (Sum.inr (fun i => (f i).map (mz adR ad)))))))
      rw [h3]
  · exact congrArg (fun l => Sum.inr (ci, l)) (czs_eq hn h he)
theorem cw_eq {dA : Nat → ClassId} {adR ad ad' : Nat → Nat} {W9 : List mE} (hn : W9.length ≤ 1000000) (h : ∀ j, j < W9.length → ad' j = ad j) (hw : wW W9.length W9) : cw dA (mz adR ad') ad' W9 = cw dA (mz adR ad) ad W9 := by
  apply List.ext_getElem?
  intro j
  rw [cw_at, cw_at]
  cases hj : W9[j]? with
  | none => rfl
  | some e =>
    have hl := (List.getElem?_eq_some_iff.mp hj).1
    show some (ad' j, czE dA (mz adR ad') e) = some (ad j, czE dA (mz adR ad) e)
    rw [h j hl, czE_eq hn h (wW_get hw hj)]
theorem wv_mono {n n' : Nat} (hn : n ≤ n') {l : List Value} (h : wv n l) : wv n' l := fun v hv r hr => (h v hv r hr).imp (fun q => Nat.lt_of_lt_of_le q hn) id
theorem wE_mono {n n' : Nat} (hn : n ≤ n') {e : mE} (h : wE n e) : wE n' e := by
  rcases e with ⟨t, m9, a⟩ | ⟨ci, fs⟩
  · rcases a with f | f | f | f | f
    · trivial
    · trivial
    · trivial
    · trivial
    · exact fun i r hr => (show ∀ i r, f i = some r → r < n ∨ 1000000 ≤ r from h) i r hr |>.imp (fun q => Nat.lt_of_lt_of_le q hn) id
  · exact wv_mono hn h
theorem wW_mono {n n' : Nat} (hn : n ≤ n') {W9 : List mE} (h : wW n W9) : wW n' W9 := fun e he => wE_mono hn (h e he)
theorem cw_push {dA : Nat → ClassId} {z ad : Nat → Nat} {W9 : List mE} {e : mE} : cw dA z ad (W9 ++ [e]) = cw dA z ad W9 ++ [(ad W9.length, czE dA z e)] := by
  apply List.ext_getElem?
  intro j
  have hlen : (cw dA z ad W9).length = W9.length := by rw [cw, List.length_mapIdx]
  rw [cw_at]
  by_cases h : j < W9.length
  · rw [List.getElem?_append_left h, List.getElem?_append_left (by rw [hlen]; exact h), cw_at]
  · rw [List.getElem?_append_right (by omega), List.getElem?_append_right (by rw [hlen]; omega), hlen]
    by_cases h2 : j = W9.length
    · subst h2; simp
    · have h3 : 1 ≤ j - W9.length := by omega
      rw [List.getElem?_eq_none (by simpa using h3), List.getElem?_eq_none (by simpa using h3)]; rfl
