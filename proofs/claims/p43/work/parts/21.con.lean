theorem mrun_s (RO : List mE) (f d k : Nat) (as : List Value) (W9 : List mE) : mrun RO f (d + 1) k as W9 = bif Nat.beq k 287 then mlib as W9 else bif Nat.blt k 375 && mcat1 as && Nat.ble as.length (mml k) then mgo RO (mrun RO f d) k f (mloc k as) [] W9 0 0 0 else none := rfl
/-! what is made is counted up; the world grows -/
def aW (a : mAct) : List mE × Nat × Nat := match a with
  | .inl (_, _, W9, _, c, s) => (W9, c, s)
  | .inr (_, W9, c, s) => (W9, c, s)
def mLenF (call : mF) : Prop := ∀ (k9 : Nat) (as : List Value) (W9 : List mE) (o : mO) (W' : List mE) (mc ms : Nat), call k9 as W9 = some (o, W', mc, ms) → W9.length ≤ W'.length
theorem mexc_mono {k pc x : Nat} {L : List Value} {W9 : List mE} {c s : Nat} {a : mAct} (h : mexc k pc x L W9 c s = some a) : aW a = (W9, c, s) := by
  unfold mexc at h
  split at h
  · cases h; rfl
  · split at h
    · rename_i i nx _
      cases hb9 : (okp L i && Nat.blt x 3) with
      | false => rw [hb9] at h; cases h
      | true => rw [hb9] at h; cases h; rfl
    · cases h
theorem mcal_mono {RO : List mE} {call : mF} (hcl : mLenF call) {k pc nx mode k9 : Nat} {r9 : List Nat} {as r L : List Value} {W9 : List mE} {c s : Nat} {a : mAct} (h : mcal RO call k pc nx mode k9 r9 as r L W9 c s = some a) : c ≤ (aW a).2.1 ∧ s ≤ (aW a).2.2 ∧ W9.length ≤ (aW a).1.length := by
  unfold mcal at h
  cases hb9 : (mcs r && mrecv RO W9 mode as r9) with
  | false => rw [hb9] at h; cases h
  | true =>
    rw [hb9] at h
    simp only [cond_true] at h
    cases hca : call k9 as W9 with
    | none => rw [hca] at h; cases h
    | some res =>
      obtain ⟨o, W', mc, ms⟩ := res
      have h9 := hcl _ _ _ _ _ _ _ hca
      rw [hca] at h
      cases o with
      | inl v => cases h; exact ⟨Nat.le_add_right _ _, Nat.le_add_right _ _, h9⟩
      | inr x =>
        rw [mexc_mono h]
        exact ⟨Nat.le_add_right _ _, Nat.le_add_right _ _, h9⟩
theorem mnew_mono {op nx c s : Nat} {st L : List Value} {W9 : List mE} {a : mAct} (h : mnew op nx st L W9 c s = some a) : c ≤ (aW a).2.1 ∧ s ≤ (aW a).2.2 ∧ W9.length ≤ (aW a).1.length := by
  obtain ⟨n, r, -, -, -, -, rfl⟩ := m_newst h
  exact ⟨Nat.le_add_right _ _, Nat.le_add_right _ _, by simp [aW]⟩
theorem mstep_mono {RO : List mE} {call : mF} (hcl : mLenF call) {k pc : Nat} {I : mI} {L st : List Value} {W9 : List mE} {c s : Nat} {a : mAct} (hm : mstep RO call k pc I L st W9 c s = some a) : c ≤ (aW a).2.1 ∧ s ≤ (aW a).2.2 ∧ W9.length ≤ (aW a).1.length := by
  obtain ⟨g, op, nx, x, v⟩ := I
  have same : ∀ {L' st' : List Value} {W2 : List mE} {pc' : Nat}, W2.length = W9.length → c ≤ (aW (.inl (L', st', W2, pc', c, s))).2.1 ∧ s ≤ (aW (.inl (L', st', W2, pc', c, s))).2.2 ∧ W9.length ≤ (aW (.inl (L', st', W2, pc', c, s))).1.length := fun h => ⟨Nat.le_refl _, Nat.le_refl _, Nat.le_of_eq h.symm⟩
  unfold mstep at hm
  simp only at hm
  cases g0 : Nat.beq g 0 with
  | true =>
    rw [g0] at hm
    simp only [cond_true] at hm
    cases hq : mSt[op]? with
    | none => rw [hq] at hm; cases hm
    | some q =>
      rw [hq] at hm
      simp only at hm
      cases hf : q.2 RO x v L st W9 with
      | none => rw [hf] at hm; cases hm
      | some t =>
        obtain ⟨L', st', W2⟩ := t
        rw [hf] at hm
        cases hm
        exact same (lenS_all q (List.mem_of_getElem? hq) _ _ _ _ _ _ _ _ _ hf)
  | false =>
  rw [g0] at hm
  simp only [cond_false] at hm
  cases g1 : Nat.beq g 1 with
  | true =>
    rw [g1] at hm
    simp only [cond_true] at hm
    split at hm
    · rename_i q tT tF _
      cases hf : q.2 st with
      | none => rw [hf] at hm; cases hm
      | some t =>
        obtain ⟨b, st'⟩ := t
        rw [hf] at hm
        cases b <;> (cases hm; exact same rfl)
    · cases hm
  | false =>
  rw [g1] at hm
  simp only [cond_false] at hm
  cases g2 : Nat.beq g 2 with
  | true =>
    rw [g2] at hm
    simp only [cond_true] at hm
    cases hq : mGt[op]? with
    | none => rw [hq] at hm; cases hm
    | some q =>
      rw [hq] at hm
      simp only at hm
      cases hf : q.2 RO x L st W9 with
      | none => rw [hf] at hm; cases hm
      | some t =>
        obtain ⟨b, L', st', W2⟩ := t
        rw [hf] at hm
        cases b with
        | false => cases hm
        | true => cases hm; exact same (lenG_all q (List.mem_of_getElem? hq) _ _ _ _ _ _ _ _ _ hf)
  | false =>
  rw [g2] at hm
  simp only [cond_false] at hm
  cases g3 : Nat.beq g 3 with
  | true =>
    rw [g3] at hm
    simp only [cond_true] at hm
    split at hm
    · cases hm; exact same rfl
    · cases hm
  | false =>
  rw [g3] at hm
  simp only [cond_false] at hm
  cases g4 : Nat.beq g 4 with
  | true =>
    rw [g4] at hm
    simp only [cond_true] at hm
    split at hm
    · cases hm; exact same rfl
    · cases hm
  | false =>
  rw [g4] at hm
  simp only [cond_false] at hm
  cases g5 : Nat.beq g 5 with
  | true =>
    rw [g5] at hm
    simp only [cond_true] at hm
    split at hm
    · cases hb : Nat.blt W9.length 1000000 with
      | false => rw [hb] at hm; cases hm
      | true => rw [hb] at hm; cases hm; exact ⟨Nat.le_add_right _ _, Nat.le_add_right _ _, by simp [aW]⟩
    · cases hm
  | false =>
  rw [g5] at hm
  simp only [cond_false] at hm
  cases g6 : Nat.beq g 6 with
  | true =>
    rw [g6] at hm
    exact mnew_mono hm
  | false =>
  rw [g6] at hm
  simp only [cond_false] at hm
  cases g7 : Nat.beq g 7 with
  | true =>
    rw [g7] at hm
    simp only [cond_true] at hm
    split at hm
    · rename_i mode k9 na z n1 n2 n3 n4 r9
      cases hb : Nat.ble (mna mode na) st.length with
      | false => rw [hb] at hm; cases hm
      | true => rw [hb] at hm; exact mcal_mono hcl hm
    · cases hm
  | false =>
  rw [g7] at hm
  simp only [cond_false] at hm
  cases g8 : Nat.beq g 8 with
  | true =>
    rw [g8] at hm
    simp only [cond_true] at hm
    cases hv : mretv k op st with
    | none => rw [hv] at hm; cases hm
    | some v9 => rw [hv] at hm; cases hm; exact ⟨Nat.le_refl _, Nat.le_refl _, Nat.le_refl _⟩
  | false =>
  rw [g8] at hm
  simp only [cond_false] at hm
  cases g9 : Nat.beq g 9 with
  | true =>
    rw [g9] at hm
    simp only [cond_true] at hm
    split at hm
    · cases hb : mcs st with
      | false => rw [hb] at hm; cases hm
      | true => rw [hb] at hm; cases hm; exact ⟨Nat.le_add_right _ _, Nat.le_add_right _ _, Nat.le_refl _⟩
    · cases hm
  | false =>
  rw [g9] at hm
  simp only [cond_false] at hm
  cases g10 : Nat.beq g 10 with
  | true =>
    rw [g10] at hm
    exact mnew_mono hm
  | false =>
  rw [g10] at hm
  simp only [cond_false] at hm
  cases g11 : Nat.beq g 11 with
  | true =>
    rw [g11] at hm
    simp only [cond_true] at hm
    cases hq : mZt[op]? with
    | none => rw [hq] at hm; cases hm
    | some q =>
      rw [hq] at hm
      simp only at hm
      cases hf : q.2 RO x v L st W9 with
      | none => rw [hf] at hm; cases hm
      | some t =>
        obtain ⟨L', st', W2⟩ := t
        rw [hf] at hm
        cases hm
        exact same (lenZ_all q (List.mem_of_getElem? hq) _ _ _ _ _ _ _ _ _ hf)
  | false =>
  rw [g11] at hm
  simp only [cond_false] at hm
  cases g12 : Nat.beq g 12 with
  | true =>
    rw [g12] at hm
    simp only [cond_true] at hm
    unfold mcln at hm
    split at hm
    · rename_i q r
      cases hb : (Nat.blt q 1000000 && mcs r && Nat.blt W9.length 1000000) with
      | false => rw [hb] at hm; cases hm
      | true =>
        rw [hb] at hm
        simp only [cond_true] at hm
        split at hm
        · rename_i n f hg
          cases hf : (List.range n).all (fun i => fits .byte (.int (f i))) with
          | false => rw [hf] at hm; cases hm
          | true => rw [hf] at hm; cases hm; exact ⟨Nat.le_add_right _ _, Nat.le_add_right _ _, by simp [aW]⟩
        · cases hm
    · cases hm
  | false =>
    rw [g12] at hm
    cases hm
theorem mgo_mono {RO : List mE} {call : mF} (hcl : mLenF call) {k : Nat} : ∀ (f : Nat) (L st : List Value) (W9 : List mE) (pc c s : Nat) (o : mO) (W' : List mE) (MC MS : Nat), mgo RO call k f L st W9 pc c s = some (o, W', MC, MS) → c ≤ MC ∧ s ≤ MS ∧ W9.length ≤ W'.length := by
  intro f
  induction f with
  | zero => intro L st W9 pc c s o W' MC MS h; cases h
  | succ f ih =>
    intro L st W9 pc c s o W' MC MS h
    rw [mgo] at h
    split at h
    · cases h
    · rename_i I _
      split at h
      · cases h
      · rename_i r9 hs
        cases h
        exact mstep_mono hcl hs
      · rename_i L' st' W2 pc' c' s' hs
        obtain ⟨a1, a2, a3⟩ := mstep_mono hcl hs
        obtain ⟨b1, b2, b3⟩ := ih _ _ _ _ _ _ _ _ _ _ h
        exact ⟨Nat.le_trans a1 b1, Nat.le_trans a2 b2, Nat.le_trans a3 b3⟩
theorem mrun_len (RO : List mE) (f : Nat) : ∀ d, mLenF (mrun RO f d) := by
  intro d
  induction d with
  | zero => intro k9 as W9 o W' mc ms h; cases h
  | succ d ih =>
    intro k9 as W9 o W' mc ms h
    rw [mrun_s] at h
    cases hb : Nat.beq k9 287 with
    | true =>
      rw [hb] at h
      simp only [cond_true] at h
      unfold mlib at h
      split at h
      · rename_i i n
        cases hb2 : (!decide (i < 0) && decide (i < n)) with
        | false => rw [hb2] at h; cases h
        | true => rw [hb2] at h; cases h; exact Nat.le_refl _
      · cases h
    | false =>
      rw [hb] at h
      simp only [cond_false] at h
      cases hb2 : (Nat.blt k9 375 && mcat1 as && Nat.ble as.length (mml k9)) with
      | false => rw [hb2] at h; cases h
      | true => rw [hb2] at h; exact (mgo_mono ih f _ _ _ _ _ _ _ _ _ _ h).2.2
section SIM
variable {X : mX} {ad0 : Nat → Nat} {n9 : Nat}
theorem mgo_sim {d : Nat} {call : mF} (hX : mCx X) (hY : mCy X) (hro : ∀ e ∈ mRO X, wE 0 e) (hk9 : mkk X < 376) (hcall : mCalls X d call) (hcl : mLenF call) (hR : d + 31 ≤ (mRm X).frames ∧ 60 * (d + 1) + 300 ≤ (mRm X).locals) :
    ∀ (f : Nat) (ad : Nat → Nat) (L st : List Value) (W9 : List mE) (pc c s : Nat) (o : mO) (W' : List mE) (MC MS : Nat), (∀ j, j < n9 → ad j = ad0 j) → n9 ≤ W9.length → MC ≤ (mRm X).cells → MS ≤ (mRm X).slots → mFit X ad0 n9 o W' MC MS → mgo (mRO X) call (mkk X) f L st W9 pc c s = some (o, W', MC, MS) → mGo X c s ad L st W9 pc := by
  intro f
  induction f with
  | zero => intro ad L st W9 pc c s o W' MC MS _ _ _ _ _ h; cases h
  | succ f ih =>
    intro ad L st W9 pc c s o W' MC MS hag hle hMC hMS hF h
    have hmono := mgo_mono hcl (f + 1) L st W9 pc c s o W' MC MS h
    rw [mgo] at h
    split at h
    · cases h
    · rename_i I hcd
      have hck := cd_ok _ _ _ hcd
      split at h
      · cases h
      · rename_i r9 hs
        cases h
        exact mstep_sim hX hY hro hk9 (Nat.le_trans hmono.1 hMC) (Nat.le_trans hmono.2.1 hMS) hag hle hcall hR hck hs ⟨hMC, hMS, hF⟩
      · rename_i L' st' W2 pc' c' s' hs
        obtain ⟨a1, a2, a3⟩ := mstep_mono hcl hs
        have a3 : W9.length ≤ W2.length := a3
        obtain ⟨b1, b2, b3⟩ := mgo_mono hcl _ _ _ _ _ _ _ _ _ _ _ h
        exact mstep_sim hX hY hro hk9 (Nat.le_trans hmono.1 hMC) (Nat.le_trans hmono.2.1 hMS) hag hle hcall hR hck hs ⟨Nat.le_trans b1 hMC, Nat.le_trans b2 hMS, fun ad' h' => ih ad' L' st' W2 pc' c' s' o W' MC MS (fun j hj => (h' j (Nat.lt_of_lt_of_le hj hle)).trans (hag j hj)) (Nat.le_trans hle a3) hMC hMS hF h⟩
end SIM
theorem mcl_list : ((List.range 375).all (fun k => match mcl[k]? with
    | some q => Nat.beq q.1 k
    | none => false)) = true := by decide +kernel
theorem mcl_at {k : Nat} (h : k < 375) : ∃ n, mcl[k]? = some (k, n) := by
  have h9 := List.all_eq_true.mp mcl_list k (List.mem_range.mpr h)
  split at h9
  · rename_i q hq
    obtain ⟨a, b⟩ := q
    have : a = k := Nat.eq_of_beq_eq_true h9
    subst this
    exact ⟨b, hq⟩
  · cases h9
theorem mini_list : ((List.range 376).all (fun k => !mini k || decide ((mnm k).name = "<init>"))) = true := by decide +kernel
theorem mini_at {k : Nat} (h : k < 376) (hm : mini k = true) : (mnm k).name = "<init>" := by
  have h9 := List.all_eq_true.mp mini_list k (List.mem_range.mpr h)
  rw [hm] at h9
  simpa using h9
theorem lv_args_mem : ∀ (vs : List Value) (o : Nat), (∀ v ∈ vs, v.category = 1) → ∀ (i : Nat) (v : Value), vs[i]? = some v → (o + i, v) ∈ lv_args o vs := by
  intro vs
  induction vs with
  | nil => intro o _ i v h; cases h
  | cons a vs ih =>
    intro o hc i v h
    rw [lv_args, if_neg (by rw [hc a List.mem_cons_self]; decide)]
    cases i with
    | zero => cases h; exact List.mem_cons_self
    | succ i =>
      have h9 := ih (o + 1) (fun v hv => hc v (List.mem_cons_of_mem _ hv)) i v h
      rw [show o + (i + 1) = o + 1 + i by omega]
      exact List.mem_cons_of_mem _ h9
theorem lg_sl_len : ∀ (vs : List Value), (∀ v ∈ vs, v.category = 1) → (lg_sl vs).length = vs.length := by
  intro vs
  induction vs with
  | nil => intro _; rfl
  | cons a vs ih =>
    intro hc
    have h9 := ih (fun v hv => hc v (List.mem_cons_of_mem _ hv))
    unfold lg_sl at h9 ⊢
    rw [List.flatMap_cons, if_neg (by rw [hc a List.mem_cons_self]; decide), List.length_append, h9]
    simp; omega
theorem lz_entry {z : Nat → Nat} {as : List Value} {n : Nat} (hc : ∀ v ∈ as, v.category = 1) (hn : as.length ≤ n) : lz z ((lg_sl (as.map (cz z)) ++ List.replicate (n - (lg_sl (as.map (cz z))).length) Slot.unset).toArray) n (as ++ List.replicate (n - as.length) (.retAddr 0)) := by
  have hc2 : ∀ v ∈ as.map (cz z), v.category = 1 := fun v hv => by
    obtain ⟨u, hu, rfl⟩ := List.mem_map.mp hv
    rw [cz_cat]; exact hc u hu
  have h9 := lv_entry (as.map (cz z)) (n := n) (by rw [lg_sl_len _ hc2, List.length_map]; exact hn)
  refine ⟨h9.1, h9.2.1, fun i v hv hnr => ?_⟩
  by_cases hi : i < as.length
  · rw [List.getElem?_append_left hi] at hv
    have h2 := h9.2.2 (0 + i, cz z v) (lv_args_mem _ 0 hc2 i (cz z v) (by rw [List.getElem?_map, hv]; rfl))
    rw [Nat.zero_add] at h2
    exact h2
  · rw [List.getElem?_append_right (by omega)] at hv
    have := List.mem_of_getElem? hv
    rw [List.eq_of_mem_replicate this] at hnr
    cases hnr
theorem mcat1_ok {as : List Value} (h : mcat1 as = true) : ∀ v ∈ as, v.category = 1 := fun v hv => Nat.eq_of_beq_eq_true (List.all_eq_true.mp h v hv)
theorem wv_loc {n k : Nat} {as : List Value} (h : wv n as) : wv n (mloc k as) := fun v hv r e => by
  rcases List.mem_append.mp hv with h9 | h9
  · exact h v h9 r e
  · rw [List.eq_of_mem_replicate h9] at e
    cases e
theorem mrun_con {l : Launch} (hst : l.stackTraces = false) {RO : List mE} (hro : ∀ e ∈ RO, wE 0 e) (hlib : ∀ (d : Nat) (i n : Int32) (W9 : List mE), ¬ i < 0 → i < n → mCon l RO 287 (d + 1) [.int i, .int n] W9 (.inl none) W9 0 0) (f : Nat) :
    ∀ (d k : Nat) (as : List Value) (W9 : List mE) (o : mO) (W' : List mE) (mc ms : Nat), mrun RO f d k as W9 = some (o, W', mc, ms) → mCon l RO k d as W9 o W' mc ms := by
  intro d
  induction d with
  | zero => intro k as W9 o W' mc ms h; cases h
  | succ d ih =>
    intro k as W9 o W' mc ms h
    rw [mrun_s] at h
    cases hb : Nat.beq k 287 with
    | true =>
      rw [hb] at h
      simp only [cond_true] at h
      cases Nat.eq_of_beq_eq_true hb
      unfold mlib at h
      split at h
      · rename_i i n
        cases hb2 : (!decide (i < 0) && decide (i < n)) with
        | false => rw [hb2] at h; cases h
        | true =>
          rw [hb2] at h
          cases h
          simp only [Bool.and_eq_true, Bool.not_eq_true', decide_eq_false_iff_not, decide_eq_true_eq] at hb2
          exact hlib d i n W9 hb2.1 hb2.2
      · cases h
    | false =>
    rw [hb] at h
    simp only [cond_false] at h
    cases hb2 : (Nat.blt k 375 && mcat1 as && Nat.ble as.length (mml k)) with
    | false => rw [hb2] at h; cases h
    | true =>
    rw [hb2] at h
    simp only [cond_true] at h
    simp only [Bool.and_eq_true] at hb2
    obtain ⟨⟨hk, hca⟩, hna⟩ := hb2
    have hk : k < 375 := Nat.le_of_ble_eq_true hk
    have hca := mcat1_ok hca
    have hna := Nat.le_of_ble_eq_true hna
    obtain ⟨n, hcl⟩ := mcl_at hk
    intro hwas dC dI dA adR ad sz
    have body : ∀ (p : Program) (e : Env) (s : State) (m : MethodId) (args : Array Value) (below : List Frame) (meth : Method) (c : Code) (s₁ : State), BodyLoose p l (mnm k) (headSpec (mws k) (mrm (d + 1) mc ms)) (mby k) (mml k) (mret k) e s m args below meth c s₁ → c.maxLocals = mml k → c.exceptionTable.toList = tableOf (mhh k) → va_Pc (as.map (cz (mz adR ad))) (mPre dC dI dA adR ad RO W9 sz) args s →
        W p l e (mrm (d + 1) mc ms) s m args below meth c s.heap [] 0 0 (vx_MQ below (fun _ st oc t => mQr dC dI dA adR ad W9.length o W' (va_A (cw dA (mz adR ad) ad W9) sz) oc t ∧ va_F (va_A (cw dA (mz adR ad) ad W9) sz) st t) (fun E st t => mQx dC dI dA adR ad W9.length o W' (va_A (cw dA (mz adR ad) ad W9) sz) E t ∧ va_F (va_A (cw dA (mz adR ad) ad W9) sz) st t) args s mc ms (va_A (cw dA (mz adR ad) ad W9) sz)) (entryFrame m args (mml k)) := by
      intro p e s m args below meth c s₁ B hml htab hv
      obtain ⟨rfl, hsz, hP, hK, hD0, hn, hw, hRO, hROA, hE⟩ := hv
      subst hsz
      have hts := atoms_spec (ws := mws k) B.pre
      have hwA : ∀ w ∈ wA, w.before _ s = true := fun w h => hts w (List.mem_cons_of_mem _ h)
      have hX : mCx (p, l, e, mrm (d + 1) mc ms, s, m, (as.map (cz (mz adR ad))).toArray, below, meth, c, (vx_MQ below (fun _ st oc t => mQr dC dI dA adR ad W9.length o W' (va_A (cw dA (mz adR ad) ad W9) s.heap.size) oc t ∧ va_F (va_A (cw dA (mz adR ad) ad W9) s.heap.size) st t) (fun E st t => mQx dC dI dA adR ad W9.length o W' (va_A (cw dA (mz adR ad) ad W9) s.heap.size) E t ∧ va_F (va_A (cw dA (mz adR ad) ad W9) s.heap.size) st t) (as.map (cz (mz adR ad))).toArray s mc ms (va_A (cw dA (mz adR ad) ad W9) s.heap.size)), va_A (cw dA (mz adR ad) ad W9) s.heap.size, dC, dI, dA, adR, RO, k) := by
        refine ⟨B.exec, B.bytes, hml, findClass_of_methodNamed B.named, ⟨hwA, wN_of hwA hE.2.2.2.1⟩, fun q h => Or.inr h, hK, hRO, fun j hj => ⟨(hROA j hj).1, ?_⟩, B.notSynchronized, B.returns, ?_, ?_, fun hm => (name_of_methodNamed B.named B.method).1.trans (mini_at (by omega) hm)⟩
        · rintro (⟨j2, e9, h9⟩ | h9)
          · rw [cw_at] at h9
            cases hw2 : W9[j2]? with
            | none => rw [hw2] at h9; cases h9
            | some e2 =>
              rw [hw2] at h9
              exact (hROA j hj).2 j2 (List.getElem?_eq_some_iff.mp hw2).1 (congrArg Prod.fst (Option.some.inj h9))
          · exact Nat.lt_irrefl _ (Nat.lt_of_lt_of_le (hROA j hj).1 h9)
        · show 30 ≤ d + 1 + 30; omega
        · show 300 ≤ 60 * (d + 1) + 300; omega
      rw [lg_entry_eq]
      exact mgo_sim (d := d) (ad0 := ad) (n9 := W9.length) hX ⟨hE, hst, htab⟩ hro (by show k < 376; omega) (fun k9 as9 W8 o9 W7 mc9 ms9 h9 => ih k9 as9 W8 o9 W7 mc9 ms9 h9) (mrun_len RO f d) ⟨by show d + 31 ≤ d + 1 + 30; omega, Nat.le_refl _⟩ f ad _ _ W9 0 0 0 o W' mc ms (fun _ _ => rfl) (Nat.le_refl _) (Nat.le_refl _) (Nat.le_refl _) rfl h s.heap [] _ hP (hD0.self) va_S.rf hn hw (wv_loc hwas) (fun v hv => by cases hv) (lz_entry hca hna)
    cases hnh : mhh k with
    | nil =>
      refine vx_ofW (mcl_plain hcl) (mws_eq hnh) (fun p e s m args below meth c s₁ B hml ht hv => body p e s m args below meth c s₁ B hml ?_ hv)
      rw [hnh]
      cases hq : c.exceptionTable.toList with
      | nil => rfl
      | cons a b => exact (ht a (by rw [hq]; exact List.mem_cons_self)).elim
    | cons a b =>
      refine vx_ofWH (mcl_plain hcl) (mws_eqW hnh) (fun p e s m args below meth c s₁ B hml hv => body p e s m args below meth c s₁ B hml ?_ hv)
      exact vx_table (x := mnm k) B (atoms_spec (ws := mws k) B.pre _ (by rw [mws_eqW hnh]; exact List.mem_cons_self))
