/-! a step of the machine is a stretch of the JVM's run -/
def mFit (X : mX) (ad0 : Nat → Nat) (n9 : Nat) (o : mO) (W' : List mE) (MC MS : Nat) : Prop := match X with
  | (p, l, e, R, s, m, args, below, meth, c, Q, A, dC, dI, dA, adR, RO, k) => Q = vx_MQ below (fun _ st oc t => mQr dC dI dA adR ad0 n9 o W' A oc t ∧ va_F A st t) (fun E st t => mQx dC dI dA adR ad0 n9 o W' A E t ∧ va_F A st t) args s MC MS A
def mK (X : mX) (ad ad0 : Nat → Nat) (n9 len : Nat) (a : mAct) : Prop := match a with
  | .inl (L', st', W', pc', c', s') => c' ≤ (mRm X).cells ∧ s' ≤ (mRm X).slots ∧ ∀ ad' : Nat → Nat, (∀ j, j < len → ad' j = ad j) → mGo X c' s' ad' L' st' W' pc'
  | .inr (o, W', c', s') => c' ≤ (mRm X).cells ∧ s' ≤ (mRm X).slots ∧ mFit X ad0 n9 o W' c' s'
theorem mnar_ok {t : Option FieldType} {x : Int32} (h : mnar t x = true) : ∃ ty, t = some ty ∧ narrow ty (.int x) = .int x := by
  unfold mnar at h
  split at h
  · exact ⟨_, rfl, rfl⟩
  · exact ⟨_, rfl, of_decide_eq_true h⟩
  · cases h
theorem refk_ok {t : FieldType} (h : refKind t = true) : (∃ n, t = .object n) ∨ ∃ u, t = .array u := by
  cases t with
  | object n => exact Or.inl ⟨n, rfl⟩
  | array u => exact Or.inr ⟨u, rfl⟩
  | _ => cases h
section SIM
variable {X : mX} {cells slots : Nat} {ad ad0 : Nat → Nat} {L st r : List Value} {W9 W' : List mE} {pc n9 : Nat}
theorem m_ret {i : Instr} {len op : Nat} {v : Option Value} (hX : mCx X) (hF : mFit X ad0 n9 (.inl v) W9 cells slots) (hag : ∀ j, j < n9 → ad j = ad0 j) (hle : n9 ≤ W9.length)
    (hm : mretv (mkk X) op st = some v) (hc : mkRet (mkk X) i len op = true) (hd : decode (mby (mkk X)) pc = .ok (i, len)) : mGo X cells slots ad L st W9 pc := by
  obtain ⟨p, l, e, R, s, m, args, below, meth, c, Q, A, dC, dI, dA, adR, RO, k⟩ := X
  obtain ⟨hx, hb, hml, hown, ⟨hwA, hwN⟩, hA, hK, hRO, hROA, hlk, hrt, hfr, hlo, hini⟩ := hX
  intro H locs ls hP hD hS hn hw hL hs hl
  have hQ : Q = _ := hF
  rw [hQ]
  have hrt : meth.sig.returnType = mret k := hrt
  have hd : decode (mby k) pc = .ok (i, len) := hd
  unfold mkRet at hc
  simp only [Bool.and_eq_true] at hc
  obtain ⟨hl1, hc⟩ := hc
  cases Nat.eq_of_beq_eq_true hl1
  unfold mretv at hm
  cases h0 : Nat.beq op 0 with
  | true =>
    rw [h0] at hm hc
    simp only [cond_true, Bool.and_eq_true, decide_eq_true_eq] at hm hc
    obtain ⟨rfl, hc2⟩ := hc
    split at hm
    · cases hm
      exact vx_ret (W.vret hx hb (hrt.trans hc2) (fun t ht hW => ⟨⟨none, ad, rfl, rfl, fun _ h => (by cases h), hag, by rw [ht]; exact hP, hD, hn, hw, hle⟩, hS.F ht⟩) hS.2.2 hd hlk)
    · cases hm
  | false =>
  rw [h0] at hm hc
  simp only [cond_false] at hm hc
  cases h1 : Nat.beq op 1 with
  | true =>
    rw [h1] at hm hc
    simp only [cond_true, Bool.and_eq_true, decide_eq_true_eq] at hm hc
    obtain ⟨rfl, -⟩ := hc
    split at hm
    · rename_i x
      cases hb9 : mnar (mret k) x with
      | false => rw [show mnar (mret (mkk _)) x = mnar (mret k) x from rfl, hb9] at hm; cases hm
      | true =>
        rw [show mnar (mret (mkk _)) x = mnar (mret k) x from rfl, hb9] at hm
        cases hm
        obtain ⟨ty, hty, hnr⟩ := mnar_ok hb9
        exact vx_ret (W.zret (v := x) hx hb (hrt.trans hty) hnr (fun t ht hW => ⟨⟨some (.int x), ad, rfl, rfl, fun _ h => (by
          intro r9 e9
          rw [List.mem_singleton.mp h] at e9
          cases e9), hag, by rw [ht]; exact hP, hD, hn, hw, hle⟩, hS.F ht⟩) hS.2.2 hd hlk)
    · cases hm
  | false =>
  rw [h1] at hm hc
  simp only [cond_false] at hm hc
  cases h2 : Nat.beq op 2 with
  | true =>
    rw [h2] at hm hc
    simp only [cond_true, Bool.and_eq_true, decide_eq_true_eq] at hm hc
    obtain ⟨rfl, hc2⟩ := hc
    have hc2 : (match mret k with | some t => refKind t | none => false) = true := hc2
    split at hc2
    · rename_i ty hty
      split at hm
      · rename_i q
        cases hm
        exact vx_ret (W.aret (v := .ref (mz adR ad q)) hx hb (hrt.trans hty) (refk_ok hc2) (Or.inr ⟨_, rfl⟩) (fun t ht hW => ⟨⟨some (.ref q), ad, rfl, rfl, fun _ h => hs _ h, hag, by rw [ht]; exact hP, hD, hn, hw, hle⟩, hS.F ht⟩) hS.2.2 hd hlk)
      · cases hm
        exact vx_ret (W.aret (v := .null) hx hb (hrt.trans hty) (refk_ok hc2) (Or.inl rfl) (fun t ht hW => ⟨⟨some .null, ad, rfl, rfl, fun _ h => hs _ h, hag, by rw [ht]; exact hP, hD, hn, hw, hle⟩, hS.F ht⟩) hS.2.2 hd hlk)
      · cases hm
    · cases hc2
  | false =>
  rw [h2] at hm hc
  simp only [cond_false] at hm hc
  cases h3 : Nat.beq op 3 with
  | true =>
    rw [h3] at hm hc
    simp only [cond_true, Bool.and_eq_true, decide_eq_true_eq] at hm hc
    obtain ⟨rfl, hc2⟩ := hc
    split at hm
    · rename_i x
      cases hm
      exact vx_ret (W.dret (v := x) hx hb (hrt.trans hc2) (fun t ht hW => ⟨⟨some (.double x), ad, rfl, rfl, fun _ h => hs _ h, hag, by rw [ht]; exact hP, hD, hn, hw, hle⟩, hS.F ht⟩) hS.2.2 hd hlk)
    · cases hm
  | false =>
  rw [h3] at hm hc
  simp only [cond_false] at hm hc
  cases h4 : Nat.beq op 4 with
  | true =>
    rw [h4] at hm hc
    simp only [cond_true, Bool.and_eq_true, decide_eq_true_eq] at hm hc
    obtain ⟨rfl, hc2⟩ := hc
    split at hm
    · rename_i x
      cases hm
      exact vx_ret (W.fret (v := x) hx hb (hrt.trans hc2) (fun t ht hW => ⟨⟨some (.float x), ad, rfl, rfl, fun _ h => hs _ h, hag, by rw [ht]; exact hP, hD, hn, hw, hle⟩, hS.F ht⟩) hS.2.2 hd hlk)
    · cases hm
  | false =>
  rw [h4] at hm hc
  simp only [cond_false] at hm hc
  cases h5 : Nat.beq op 5 with
  | true =>
    rw [h5] at hm hc
    simp only [cond_true, Bool.and_eq_true, decide_eq_true_eq] at hm hc
    obtain ⟨rfl, hc2⟩ := hc
    split at hm
    · rename_i x
      cases hm
      exact vx_ret (W.lret (v := x) hx hb (hrt.trans hc2) (fun t ht hW => ⟨⟨some (.long x), ad, rfl, rfl, fun _ h => hs _ h, hag, by rw [ht]; exact hP, hD, hn, hw, hle⟩, hS.F ht⟩) hS.2.2 hd hlk)
    · cases hm
  | false =>
    rw [h5] at hc
    cases hc
/-! throwing -/
theorem drop_mid {α : Type} (A : List α) (m : α) (T : List α) : (A ++ m :: T).drop (A.length + 1) = T := by
  induction A with
  | nil => rfl
  | cons a A ih => exact ih
/-- how the constructor of each hands on its text: the entry and its code -/
def xidx (E : Nat) : Nat := bif Nat.beq E 2 then 13 else 7
def xby (E : Nat) : ByteArray := bif Nat.beq E 2 then ⟨#[0x2a, 0x2b, 0xb7, 0x00, 0x0d, 0xb1]⟩ else ⟨#[0x2a, 0x2b, 0xb7, 0x00, 0x07, 0xb1]⟩
def xY : String := "java/lang/RuntimeException"
def xnames : List String := ["java/lang/Exception"]
def xW1 (E : Nat) : List Cond := Bundle.throwableAtoms ++ (Bundle.throwableSAtoms ++ (Bundle.passSAtoms (mexn E) xY (xidx E) (xby E) ++ Bundle.chainSAtoms xY xnames))
def mthrP (X9 : String) : List Cond := Bundle.throwableAtoms ++ Bundle.throwableSAtoms ++ Bundle.chainSAtoms X9 []
def xW2 (X9 : String) : List Cond := (Bundle.ownAtoms "" 0 X9 []).drop ((mthrP X9).length + 1)
def xok (w : Cond) : Bool := !(vx_no w) || (decide (w ∈ lw_tbl) && gw w && vx_ot w)
def mthrC (E : Nat) : Bool := (xW1 E).all xok && (xW2 (mexn E)).all xok
set_option maxRecDepth 100000 in
theorem mthrC_0 : mthrC 0 = true := by decide +kernel
set_option maxRecDepth 100000 in
theorem mthrC_1 : mthrC 1 = true := by decide +kernel
set_option maxRecDepth 100000 in
theorem mthrC_2 : mthrC 2 = true := by decide +kernel
theorem mthr_at {E : Nat} (hE : E < 3) : mthrC E = true := by
  rcases (show E = 0 ∨ E = 1 ∨ E = 2 by omega) with rfl | rfl | rfl
  · exact mthrC_0
  · exact mthrC_1
  · exact mthrC_2
theorem xok_use {w : Cond} {args : Array Value} {s : State} (hwN : ∀ w ∈ wN, w.before args s = true) (h : xok w = true) (hn : vx_no w = true) : w.before args s = true ∧ vx_ot w = true := by
  unfold xok at h
  rw [hn] at h
  simp only [Bool.not_true, Bool.false_or, Bool.and_eq_true, decide_eq_true_eq] at h
  exact ⟨hwN w (List.mem_filter.mpr ⟨h.1.1, h.1.2⟩), h.2⟩
theorem xdec {E : Nat} (hE : E < 3) : decode (xby E) 0 = .ok (.aload_n 0, 1) ∧ decode (xby E) 1 = .ok (.aload_n 1, 1) ∧ decode (xby E) 2 = .ok (.invokespecial (xidx E), 3) ∧ decode (xby E) 5 = .ok (.return_, 1) := by
  rcases (show E = 0 ∨ E = 1 ∨ E = 2 by omega) with rfl | rfl | rfl <;> exact ⟨by decide +kernel, by decide +kernel, by decide +kernel, by decide +kernel⟩
theorem mthr_words {E : Nat} (hE4 : E < 3) {args : Array Value} {s : State} (hwN : ∀ w ∈ wN, w.before args s = true) {own : String} {ic n3 : Nat} (hw3 : wck n3 (.methodLink own ic (Bundle.initS (mexn E))) = true) :
    (∀ w, vx_no w = true → w ∈ Bundle.throwableAtoms ++ (Bundle.throwableSAtoms ++ (Bundle.passSAtoms (mexn E) xY (xidx E) (xby E) ++ Bundle.chainSAtoms xY xnames)) → w.before args s = true ∧ vx_ot w = true) ∧
    (∀ a ∈ Bundle.ownAtoms own ic (mexn E) [], vx_no a = true → a ∈ Bundle.chainSAtoms (mexn E) [] ∨ (a.before args s = true ∧ vx_ot a = true)) := by
  have hmc := mthr_at hE4
  unfold mthrC at hmc
  rw [Bool.and_eq_true] at hmc
  have hall1 := List.all_eq_true.mp hmc.1
  have hall2 := List.all_eq_true.mp hmc.2
  have hW1 : ∀ w, vx_no w = true → w ∈ Bundle.throwableAtoms ++ (Bundle.throwableSAtoms ++ (Bundle.passSAtoms (mexn E) xY (xidx E) (xby E) ++ Bundle.chainSAtoms xY xnames)) → w.before args s = true ∧ vx_ot w = true := fun w hn hw0 => xok_use hwN (hall1 w hw0) hn
  have hR1 : ∀ a ∈ Bundle.ownAtoms own ic (mexn E) [], vx_no a = true → a ∈ Bundle.chainSAtoms (mexn E) [] ∨ (a.before args s = true ∧ vx_ot a = true) := by
    intro w hw0 hn
    rw [Bundle.ownAtoms] at hw0
    rcases List.mem_append.mp hw0 with h1 | h1
    · rcases List.mem_append.mp h1 with h2 | h2
      · rcases List.mem_append.mp h2 with h3 | h3
        · exact Or.inr (hW1 w hn (List.mem_append_left _ h3))
        · exact Or.inr (hW1 w hn (List.mem_append_right _ (List.mem_append_left _ h3)))
      · exact Or.inl h2
    · rcases List.mem_cons.mp h1 with h2 | h2
      · rw [h2]
        exact Or.inr ⟨mwd hwN (wck_1 hw3) (wck_2 hw3), rfl⟩
      · refine Or.inr (xok_use hwN (hall2 w ?_) hn)
        rw [xW2, show (Bundle.ownAtoms "" 0 (mexn E) []).drop ((mthrP (mexn E)).length + 1) = _ from drop_mid (mthrP (mexn E)) _ _]
        exact h2
  exact ⟨hW1, hR1⟩
set_option maxHeartbeats 4000000 in
theorem m_thr {i : Instr} {op E : Nat} {x : List Nat} (hX : mCx X) (hY : mCy X) (hF : mFit X ad0 n9 (.inr E) W9 (cells + 1) (slots + 6)) (hag : ∀ j, j < n9 → ad j = ad0 j) (hle : n9 ≤ W9.length) (hcs : cells + 1 ≤ (mRm X).cells) (hss : slots + 6 ≤ (mRm X).slots)
    (hms : mcs st = true) (hc : mkThr (mkk X) pc i op (E :: x) = true) (hd : decode (mby (mkk X)) pc = .ok (i, 3)) : mGo X cells slots ad L st W9 pc := by
  obtain ⟨p, l, e, R, s, m, args, below, meth, c, Q, A, dC, dI, dA, adR, RO, k⟩ := X
  obtain ⟨hx, hb, hml, hown, ⟨hwA, hwN⟩, hA, hK, hRO, hROA, hlk, hrt, hfr, hlo, hini⟩ := hX
  obtain ⟨hE9, hst9, htab⟩ := hY
  intro H locs ls hP hD hS hn hw hL hs hl
  have hQ : Q = _ := hF
  rw [hQ]
  have hcs : cells + 1 ≤ R.cells := hcs
  have hss : slots + 6 ≤ R.slots := hss
  have hd : decode (mby k) pc = .ok (i, 3) := hd
  have hr8 : (st.map fun v => v.category).sum ≤ 8 := Nat.le_of_ble_eq_true hms
  have hsum : ((st.map (cz (mz adR ad))).map fun v => v.category).sum + (13 * (xnames.length + 2) + 43) ≤ R.locals := by
    rw [cz_cats]
    have h300 : 300 ≤ R.locals := hlo
    have : xnames.length = 1 := rfl
    omega
  have hfr9 : xnames.length + 4 < R.frames := by
    have h30 : 30 ≤ R.frames := hfr
    have : xnames.length = 1 := rfl
    omega
  unfold mkThr at hc
  split at hc
  · rename_i E' j ik is ic n1 n2 n3 hx9
    cases hx9
    simp only [Bool.and_eq_true, decide_eq_true_eq, Bool.not_eq_true'] at hc
    obtain ⟨⟨⟨⟨⟨⟨⟨⟨rfl, hd3⟩, hw1⟩, hw2⟩, hw3⟩, hstr⟩, hnil⟩, hE4⟩, hops⟩ := hc
    have hE4 : E < 3 := Nat.le_of_ble_eq_true hE4
    have hnh : mhh k = [] := by
      cases hq : mhh k with
      | nil => rfl
      | cons a b => rw [show mhh (mkk _) = mhh k from rfl, hq] at hnil; cases hnil
    have hout : ∀ (x : ExceptionTableEntry), x ∈ c.exceptionTable.toList → False := by
      have htab : c.exceptionTable.toList = tableOf (mhh k) := htab
      rw [htab, hnh]
      intro x hx0
      cases hx0
    split at hstr
    · rename_i own idx text hj
      simp only [Bool.and_eq_true, decide_eq_true_eq] at hstr
      obtain ⟨rfl, hidx⟩ := hstr
      cases Nat.eq_of_beq_eq_true hidx
      have hvk := hE9.2.2.1 j _ hj
      obtain ⟨hW1, hR1⟩ := mthr_words hE4 hwN hw3
      obtain ⟨b0, b1, b2, b5⟩ := xdec hE4
      have hxx : ∀ t : State, s.vm.Alike t.vm → H.size ≤ t.heap.size → (∀ q : Nat, q < H.size → t.heap[q]? = H[q]?) → mQx dC dI dA adR ad0 n9 (.inr E) W9 A (mexn E) t ∧ va_F A s t := fun t _ h1 h2 =>
        ⟨⟨E, ad, rfl, rfl, hag, hP.kept (fun j y hj => h2 _ (vx_lt hP hj)), hD, hn, hw, hle⟩, Nat.le_trans hS.1 h1, fun q h3 h4 => (h2 q (Nat.lt_of_lt_of_le h3 hS.1)).trans (hS.2.1 q h3 h4)⟩
      have hfit : Bundle.fit (mexn E) = true := by
        rcases (show E = 0 ∨ E = 1 ∨ E = 2 by omega) with rfl | rfl | rfl <;> decide +kernel
      cases ho : Nat.beq op 0 with
      | true =>
        rw [ho] at hops
        simp only [cond_true, Bool.and_eq_true, decide_eq_true_eq] at hops
        obtain ⟨⟨d4, d6⟩, d9⟩ := hops
        exact xt_throw hx hb hst9 hown hfit (by decide +kernel) (by decide +kernel) b0 b1 b2 b5 (mwd hwN (wck_1 hw1) (wck_2 hw1)) (mwd hwN (wck_1 hw2) (wck_2 hw2)) (mwd hwN (wck_1 hw3) (wck_2 hw3)) hvk hW1 hR1 hE9.1 hE9.2.1 hS (hl.1.trans hml.symm) hd hd3 d4 d6 d9 (fun x h => (hout x h).elim) hfr9 hsum hcs hss hlk hxx hS.2.2 (Nat.le_refl _) (Nat.le_refl _)
      | false =>
        rw [ho] at hops
        simp only [cond_false, Bool.and_eq_true, decide_eq_true_eq] at hops
        obtain ⟨⟨d4, d6⟩, d9⟩ := hops
        exact xt_throwW hx hb hst9 hown hfit (by decide +kernel) (by decide +kernel) b0 b1 b2 b5 (mwd hwN (wck_1 hw1) (wck_2 hw1)) (mwd hwN (wck_1 hw2) (wck_2 hw2)) (mwd hwN (wck_1 hw3) (wck_2 hw3)) hvk hW1 hR1 hE9.1 hE9.2.1 hS (hl.1.trans hml.symm) hd hd3 d4 d6 d9 (fun x h => (hout x h).elim) hfr9 hsum hcs hss hlk hxx hS.2.2 (Nat.le_refl _) (Nat.le_refl _)
    · cases hstr
  · cases hc
/-! switches -/
theorem mswt_tab (x : Int32) (df : Nat) : ∀ (l : List (Int32 × Nat)) (lo : Int), l.map (fun q => q.1.toInt) = (List.range l.length).map (fun (j : Nat) => lo + (j : Int)) →
    (∃ (j : Nat) (q : Int32 × Nat), l[j]? = some q ∧ x.toInt = lo + (j : Int) ∧ mswt x l df = q.2) ∨ ((x.toInt < lo ∨ lo + (l.length : Int) ≤ x.toInt) ∧ mswt x l df = df) := by
  intro l
  induction l with
  | nil => intro lo _; exact Or.inr ⟨by simp; omega, rfl⟩
  | cons a l ih =>
    intro lo h
    obtain ⟨c9, t9⟩ := a
    rw [List.length_cons, List.range_succ_eq_map, List.map_cons, List.map_cons, List.map_map] at h
    injection h with h1 h2
    have h1 : c9.toInt = lo := by simpa using h1
    rw [mswt]
    by_cases hxc : x = c9
    · rw [if_pos hxc]
      exact Or.inl ⟨0, _, rfl, by rw [hxc, h1]; simp, rfl⟩
    · rw [if_neg hxc]
      have h3 := ih (lo + 1) (h2.trans (List.map_congr_left (fun j _ => by simp only [Function.comp]; push_cast; omega)))
      have h4 : x.toInt ≠ lo := fun e => hxc (Int32.toInt_inj.mp (e.trans h1.symm))
      rcases h3 with ⟨j, q, e1, e2, e3⟩ | ⟨e1, e2⟩
      · exact Or.inl ⟨j + 1, q, e1, by push_cast; omega, e3⟩
      · exact Or.inr ⟨by rw [List.length_cons]; push_cast; omega, e2⟩
theorem mswt_look (x : Int32) (df pc : Nat) (d : Int) (hd : (pc : Int) + d = (df : Int)) : ∀ (l : List (Int32 × Nat)) (ps : List (Int × Int)), l.map (fun q => (q.1.toInt, (q.2 : Int))) = ps.map (fun f => (f.1, (pc : Int) + f.2)) →
    (pc : Int) + Op.lookupswitch.offset ps d x.toInt = (mswt x l df : Int) := by
  intro l
  induction l with
  | nil =>
    intro ps h
    cases ps with
    | nil => exact hd
    | cons a b => simp at h
  | cons a l ih =>
    intro ps h
    cases ps with
    | nil => simp at h
    | cons f ps =>
      obtain ⟨c9, t9⟩ := a
      obtain ⟨a9, o9⟩ := f
      rw [List.map_cons, List.map_cons] at h
      injection h with h1 h2
      have h3 : c9.toInt = a9 := congrArg Prod.fst h1
      have h4 : (t9 : Int) = (pc : Int) + o9 := congrArg Prod.snd h1
      rw [mswt]
      by_cases hxc : x = c9
      · rw [if_pos hxc, Op.lookupswitch.offset_cons, if_pos (by rw [hxc, h3])]
        exact h4.symm
      · rw [if_neg hxc, lv_osw hxc h3]
        exact ih ps h2
theorem m_sw {i : Instr} {len df : Nat} {x : List Nat} {v : Int32} (hX : mCx X) (hc : mkSw (mkk X) pc i (df :: x) = true) (hd : decode (mby (mkk X)) pc = .ok (i, len)) (kk : mGo X cells slots ad L r W9 (mswt v (msw (mkk X) pc) df)) : mGo X cells slots ad L (.int v :: r) W9 pc := by
  obtain ⟨p, l, e, R, s, m, args, below, meth, c, Q, A, dC, dI, dA, adR, RO, k⟩ := X
  obtain ⟨hx, hb, hml, hown, ⟨hwA, hwN⟩, hA, hK, hRO, hROA, hlk, hrt, hfr, hlo, hini⟩ := hX
  intro H locs ls hP hD hS hn hw hL hs hl
  have k9 := kk H locs ls hP hD hS hn hw hL (wv_tail hs) hl
  change decode (mby k) pc = .ok (i, len) at hd
  unfold mkSw at hc
  split at hc
  · rename_i d lo hi offs df9 x9 hx9
    cases hx9
    simp only [Bool.and_eq_true, decide_eq_true_eq] at hc
    obtain ⟨⟨⟨h1, h2⟩, h3⟩, h4⟩ := hc
    rcases mswt_tab v df (msw k pc) lo h3 with ⟨j, q, e1, e2, e3⟩ | ⟨e1, e2⟩
    · have hj := (List.getElem?_eq_some_iff.mp e1).1
      have h5 : ((msw k pc).map (fun q => (q.2 : Int)))[j]? = some (q.2 : Int) := by rw [List.getElem?_map, e1]; rfl
      have h4 : (msw k pc).map (fun q => (q.2 : Int)) = offs.toList.map (fun f => (pc : Int) + f) := h4
      rw [h4, List.getElem?_map] at h5
      cases ho : offs.toList[j]? with
      | none => rw [ho] at h5; cases h5
      | some off =>
        rw [ho] at h5
        have h6 : (pc : Int) + off = (q.2 : Int) := Option.some.inj h5
        have h2 : hi + 1 = lo + ((msw k pc).length : Int) := h2
        refine lv_tableIn hx hb hd (by omega) (by omega) (off := off) ?_ h6 (e3 ▸ k9)
        rw [show (v.toInt - lo).toNat = j by omega, ← Array.getElem?_toList]
        exact ho
    · have h2 : hi + 1 = lo + ((msw k pc).length : Int) := h2
      exact lv_tableOut hx hb hd (by omega) h1 (e2 ▸ k9)
  · rename_i d ps df9 x9 hx9
    cases hx9
    simp only [Bool.and_eq_true, decide_eq_true_eq] at hc
    obtain ⟨⟨h1, h2⟩, h3⟩ := hc
    exact lv_lookup hx hb hd h3 rfl (mswt_look v df pc d h1 (msw k pc) ps.toList h2) k9
  · cases hc
/-! new objects -/
theorem mdef_ok {ci : Nat} {C : String} {T : u_T} {N : Nat} (hc : vwCl[ci]? = some (C, T, N)) : (∀ j, j < N → defaultValue (tyf ci j) = vp_V (mdef ci) j) ∧ (∀ z, (mdef ci).map (cz z) = mdef ci) ∧ wv 0 (mdef ci) ∧ (mdef ci).length = N := by
  have hwv : ∀ l : List Value, l.all (fun v => match v with | .ref _ => false | _ => true) = true → wv 0 l := by
    intro l h v hv r e
    have h9 := List.all_eq_true.mp h v hv
    rw [e] at h9
    cases h9
  match ci, hc with
  | 0, h => cases h; exact ⟨by decide +kernel, fun _ => rfl, hwv _ rfl, rfl⟩
  | 1, h => cases h; exact ⟨by decide +kernel, fun _ => rfl, hwv _ rfl, rfl⟩
  | 2, h => cases h; exact ⟨by decide +kernel, fun _ => rfl, hwv _ rfl, rfl⟩
  | 3, h => cases h; exact ⟨by decide +kernel, fun _ => rfl, hwv _ rfl, rfl⟩
  | 4, h => cases h; exact ⟨by decide +kernel, fun _ => rfl, hwv _ rfl, rfl⟩
  | 5, h => cases h; exact ⟨by decide +kernel, fun _ => rfl, hwv _ rfl, rfl⟩
  | 6, h => cases h; exact ⟨by decide +kernel, fun _ => rfl, hwv _ rfl, rfl⟩
  | j + 7, h => simp [vwCl] at h
theorem m_new {i : Instr} {len nx ci n1 n2 n3 : Nat} (hX : mCx X) (hc : mckI (mkk X) pc i len 5 0 nx [ci, n1, n2, n3] .null = true) (hd : decode (mby (mkk X)) pc = .ok (i, len)) (hlen : W9.length < 1000000)
    (hcs : cells + 1 ≤ (mRm X).cells) (hss : slots + (mdef ci).length ≤ (mRm X).slots) (kk : ∀ ad' : Nat → Nat, (∀ j, j < W9.length → ad' j = ad j) → mGo X (cells + 1) (slots + (mdef ci).length) ad' L (.ref W9.length :: st) (W9 ++ [.inr (ci, mdef ci)]) nx) : mGo X cells slots ad L st W9 pc := by
  unfold mckI at hc
  simp only [show Nat.beq 5 0 = false from rfl, show Nat.beq 5 1 = false from rfl, show Nat.beq 5 2 = false from rfl, show Nat.beq 5 3 = false from rfl, show Nat.beq 5 4 = false from rfl, show Nat.beq 5 5 = true from rfl, cond_true, cond_false] at hc
  split at hc
  · rename_i index ci9 m1 m2 m3 hx9
    cases hx9
    split at hc
    · rename_i C T N hcl
      simp only [Bool.and_eq_true] at hc
      obtain ⟨⟨⟨⟨⟨h1, h2⟩, h3⟩, h4⟩, hl⟩, hnx⟩ := hc
      cases Nat.eq_of_beq_eq_true hl
      cases Nat.eq_of_beq_eq_true hnx
      obtain ⟨d1, d2, d3, d4⟩ := mdef_ok hcl
      rw [d4] at hss kk
      exact o_new hX hcl h1 (wck_1 h2) (wck_2 h2) (wck_1 h3) (wck_2 h3) (wck_1 h4) (wck_2 h4) d1 d2 d3 hcs hss hlen hd kk
    · cases hc
  · cases hc
theorem m_arr {i : Instr} {len nx n1 op : Nat} {n : Int32} (hX : mCx X) (hc : mckI (mkk X) pc i len 6 op nx [n1] .null = true) (hd : decode (mby (mkk X)) pc = .ok (i, len)) (hn0 : ¬ n < 0) (hby : n.toNatClampNeg * 8 ≤ 536870912) (hlen : W9.length < 1000000)
    (hcs : cells + 1 ≤ (mRm X).cells) (hss : slots + n.toNatClampNeg ≤ (mRm X).slots) (kk : ∀ ad' : Nat → Nat, (∀ j, j < W9.length → ad' j = ad j) → mGo X (cells + 1) (slots + n.toNatClampNeg) ad' L (.ref W9.length :: r) (W9 ++ [marr op n.toNatClampNeg]) nx) : mGo X cells slots ad L (.int n :: r) W9 pc := by
  unfold mckI at hc
  simp only [show Nat.beq 6 0 = false from rfl, show Nat.beq 6 1 = false from rfl, show Nat.beq 6 2 = false from rfl, show Nat.beq 6 3 = false from rfl, show Nat.beq 6 4 = false from rfl, show Nat.beq 6 5 = false from rfl, show Nat.beq 6 6 = true from rfl, cond_true, cond_false] at hc
  split at hc
  · rename_i a m1 hx9
    cases hx9
    simp only [Bool.and_eq_true] at hc
    obtain ⟨⟨hl, hnx⟩, hc⟩ := hc
    cases Nat.eq_of_beq_eq_true hl
    cases Nat.eq_of_beq_eq_true hnx
    cases h1 : Nat.beq op 1 with
    | true =>
      cases Nat.eq_of_beq_eq_true h1
      simp only [show Nat.beq 1 1 = true from rfl, cond_true, Bool.and_eq_true, decide_eq_true_eq] at hc
      obtain ⟨rfl, hw⟩ := hc
      exact o_newI hX (wck_1 hw) hn0 hby hcs hss hlen hd kk
    | false =>
    rw [h1] at hc
    simp only [cond_false] at hc
    cases h0 : Nat.beq op 0 with
    | true =>
      cases Nat.eq_of_beq_eq_true h0
      simp only [show Nat.beq 0 0 = true from rfl, cond_true, Bool.and_eq_true, decide_eq_true_eq] at hc
      obtain ⟨rfl, hw⟩ := hc
      exact o_newB hX (wck_1 hw) hn0 hby hcs hss hlen hd kk
    | false =>
    rw [h0] at hc
    simp only [cond_false] at hc
    cases h2 : Nat.beq op 2 with
    | true =>
      cases Nat.eq_of_beq_eq_true h2
      simp only [show Nat.beq 2 2 = true from rfl, cond_true, Bool.and_eq_true, decide_eq_true_eq] at hc
      obtain ⟨rfl, hw⟩ := hc
      exact o_newZ hX (wck_1 hw) hn0 hby hcs hss hlen hd kk
    | false =>
      rw [h2] at hc
      cases hc
  · cases hc
theorem m_anw {i : Instr} {len nx n1 n2 op : Nat} {n : Int32} (hX : mCx X) (hc : mckI (mkk X) pc i len 10 op nx [n1, n2] .null = true) (hd : decode (mby (mkk X)) pc = .ok (i, len)) (hn0 : ¬ n < 0) (hby : n.toNatClampNeg * 8 ≤ 536870912) (hlen : W9.length < 1000000)
    (hcs : cells + 1 ≤ (mRm X).cells) (hss : slots + n.toNatClampNeg ≤ (mRm X).slots) (kk : ∀ ad' : Nat → Nat, (∀ j, j < W9.length → ad' j = ad j) → mGo X (cells + 1) (slots + n.toNatClampNeg) ad' L (.ref W9.length :: r) (W9 ++ [marr 3 n.toNatClampNeg]) nx) : mGo X cells slots ad L (.int n :: r) W9 pc := by
  unfold mckI at hc
  simp only [show Nat.beq 10 0 = false from rfl, show Nat.beq 10 1 = false from rfl, show Nat.beq 10 2 = false from rfl, show Nat.beq 10 3 = false from rfl, show Nat.beq 10 4 = false from rfl, show Nat.beq 10 5 = false from rfl, show Nat.beq 10 6 = false from rfl, show Nat.beq 10 7 = false from rfl, show Nat.beq 10 8 = false from rfl, show Nat.beq 10 9 = false from rfl, show Nat.beq 10 10 = true from rfl, cond_true, cond_false] at hc
  split at hc
  · rename_i index m1 m2 hx9
    cases hx9
    simp only [Bool.and_eq_true] at hc
    obtain ⟨⟨⟨hw1, hw2⟩, hl⟩, hnx⟩ := hc
    cases Nat.eq_of_beq_eq_true hl
    cases Nat.eq_of_beq_eq_true hnx
    exact o_anew hX (wck_1 hw1) (wck_2 hw1) (wck_1 hw2) (fun _ _ h => va_AO.of h) (wck_2 hw2) hn0 (by omega) hcs hss hlen hd kk
  · cases hc
theorem m_cln {i : Instr} {len op nx : Nat} {x : List Nat} {v : Value} {a : mAct} (hX : mCx X) (hY : mCy X) (hc : mckI (mkk X) pc i len 12 op nx x v = true) (hd : decode (mby (mkk X)) pc = .ok (i, len)) (hm : mcln nx st L W9 cells slots = some a) (hK : mK X ad ad0 n9 W9.length a) : mGo X cells slots ad L st W9 pc := by
  unfold mckI at hc
  simp only [show Nat.beq 12 0 = false from rfl, show Nat.beq 12 1 = false from rfl, show Nat.beq 12 2 = false from rfl, show Nat.beq 12 3 = false from rfl, show Nat.beq 12 4 = false from rfl, show Nat.beq 12 5 = false from rfl, show Nat.beq 12 6 = false from rfl, show Nat.beq 12 7 = false from rfl, show Nat.beq 12 8 = false from rfl, show Nat.beq 12 9 = false from rfl, show Nat.beq 12 10 = false from rfl, show Nat.beq 12 11 = false from rfl, show Nat.beq 12 12 = true from rfl, cond_true, cond_false] at hc
  unfold mcln at hm
  split at hm
  · rename_i q r
    cases hb : (Nat.blt q 1000000 && mcs r && Nat.blt W9.length 1000000) with
    | false => rw [hb] at hm; cases hm
    | true =>
      rw [hb] at hm
      simp only [Bool.and_eq_true] at hb
      simp only [cond_true] at hm
      split at hm
      · rename_i n f hg
        cases hf : (List.range n).all (fun i => fits .byte (.int (f i))) with
        | false => rw [hf] at hm; cases hm
        | true =>
          rw [hf] at hm
          cases hm
          have hfit := fun (i : Nat) (hi : i < n) => List.all_eq_true.mp hf i (List.mem_range.mpr hi)
          split at hc
          · rename_i index n1 n2 n3 n4 n5 n6
            simp only [Bool.and_eq_true] at hc
            obtain ⟨⟨⟨⟨⟨⟨⟨w1, w2⟩, w3⟩, w4⟩, w5⟩, hl⟩, hnx⟩, w6⟩ := hc
            cases Nat.eq_of_beq_eq_true hl
            cases Nat.eq_of_beq_eq_true hnx
            split at w6
            · rename_i index2 hd2
              exact o_clone hX hY (wck_1 w1) (wck_2 w1) (wck_1 w2) (wck_2 w2) (wck_1 w3) (wck_2 w3) (wck_1 w4) (wck_2 w4) (wck_1 w5) (wck_2 w5) (wck_1 w6) (wck_2 w6) hb.1.1 hg hfit hb.1.2 hK.1 hK.2.1 (Nat.le_of_ble_eq_true hb.2) hd hd2 hK.2.2
            · cases w6
          · cases hc
      · cases hm
  · cases hm
/-! an exception on its way -/
abbrev mH9 : Type := Nat × Nat × Nat × Nat × Nat × Nat × Nat × Nat × Nat
def mhck1 (k : Nat) (q : mH9) : Bool := !(Nat.beq q.2.2.2.1 0) && Nat.blt q.2.2.2.2.1 3 && wck q.2.2.2.2.2.2.2.1 (.classLink (mnm k).cls q.2.2.2.1 (mexn q.2.2.2.2.1)) && wck q.2.2.2.2.2.2.2.2 (.castable (mexn q.2.2.2.2.1) (mexn q.2.2.2.2.1)) && Nat.blt q.2.2.2.2.2.1 (mml k) && (match decode (mby k) q.2.2.1 with
    | .ok (.astore j, 2) => Nat.beq q.2.2.2.2.2.1 j && Nat.beq q.2.2.2.2.2.2.1 2
    | .ok (.astore_n j, 1) => Nat.beq q.2.2.2.2.2.1 j && Nat.beq q.2.2.2.2.2.2.1 1
    | _ => false)
def mhck (k : Nat) : Bool := decide (mhh k = (mhx k).map (fun q => (q.1, q.2.1, q.2.2.1, q.2.2.2.1))) && (mhx k).all (mhck1 k)
theorem mhck_all : ((List.range 376).all mhck) = true := by decide +kernel
theorem mhck_ok {k : Nat} (h : k < 376) : mhck k = true := List.all_eq_true.mp mhck_all k (List.mem_range.mpr h)
theorem mfh_spec {pc x i nx : Nat} : ∀ l : List mH9, mfh pc x l = some (i, nx) → ∃ (pre : List mH9) (q : mH9) (suf : List mH9), l = pre ++ q :: suf ∧ (q.1 ≤ pc ∧ pc < q.2.1) ∧ q.2.2.2.2.1 = x ∧ i = q.2.2.2.2.2.1 ∧ nx = q.2.2.1 + q.2.2.2.2.2.2.1 ∧ ∀ z ∈ pre, ¬ ((z.1 ≤ pc ∧ pc < z.2.1) ∧ z.2.2.2.2.1 = x) := by
  intro l
  induction l with
  | nil => intro h; cases h
  | cons a l ih =>
    intro h
    obtain ⟨a1, b1, h1, c1, E1, i1, l1, m1, m2⟩ := a
    rw [mfh] at h
    cases hb : (Nat.ble a1 pc && Nat.blt pc b1 && Nat.beq E1 x) with
    | true =>
      rw [hb] at h
      cases h
      simp only [Bool.and_eq_true] at hb
      exact ⟨[], _, l, rfl, ⟨Nat.le_of_ble_eq_true hb.1.1, Nat.le_of_ble_eq_true hb.1.2⟩, Nat.eq_of_beq_eq_true hb.2, rfl, rfl, fun z hz => by cases hz⟩
    | false =>
      rw [hb] at h
      obtain ⟨pre, q, suf, e1, e2, e3, e4, e5, e6⟩ := ih h
      refine ⟨(a1, b1, h1, c1, E1, i1, l1, m1, m2) :: pre, q, suf, by rw [e1]; rfl, e2, e3, e4, e5, fun z hz => ?_⟩
      rcases List.mem_cons.mp hz with hz | hz
      · rw [hz]
        rintro ⟨⟨q1, q2⟩, q3⟩
        have q1 : a1 ≤ pc := q1
        have q2 : pc < b1 := q2
        have q3 : E1 = x := q3
        rw [Nat.ble_eq_true_of_le q1, show Nat.blt pc b1 = true from Nat.ble_eq_true_of_le q2, q3, show Nat.beq x x = true from Nat.beq_refl x] at hb
        cases hb
      · exact e6 z hz
theorem lz_unk {z : Nat → Nat} {ls ls' : Array Slot} {nL i : Nat} {L : List Value} {v : Value} (h : lz z ls nL L) (hp : okp L i = true)
    (h' : lv_has ls' nL ((i, v) :: (lqq z 0 L).filter (fun q => !(q.1 == i) && !(q.1 + 1 == i && q.2.category == 2)))) : lz z ls' nL (L.set i (.retAddr 0)) := by
  refine ⟨h'.1, h'.2.1, fun j u hu hn => ?_⟩
  rw [List.getElem?_set] at hu
  by_cases hij : i = j
  · subst hij
    rw [if_pos rfl] at hu
    by_cases hl : i < L.length
    · rw [if_pos hl] at hu
      cases hu
      cases hn
    · rw [if_neg hl] at hu; cases hu
  · rw [if_neg hij] at hu
    refine h'.2.2 (j, cz z u) (List.mem_cons_of_mem _ (List.mem_filter.mpr ⟨(lqq_mem z L 0 _).mpr ⟨j, u, hu, hn, by simp⟩, ?_⟩))
    have h1 : (j == i) = false := by simpa using fun e => hij e.symm
    have h2 : (j + 1 == i && (cz z u).category == 2) = false := by
      rw [cz_cat]
      by_cases e : j + 1 = i
      · subst e
        rw [okp, hu] at hp
        have := Nat.le_of_ble_eq_true hp
        have h3 : (u.category == 2) = false := by simp; omega
        rw [h3, Bool.and_false]
      · have h3 : (j + 1 == i) = false := by simpa using e
        rw [h3, Bool.false_and]
    show (!(j == i) && !(j + 1 == i && (cz z u).category == 2)) = true
    rw [h1, h2]; rfl
theorem m_exc {x : Nat} {a : mAct} (hX : mCx X) (hY : mCy X) (hk9 : mkk X < 376) (hag : ∀ j, j < n9 → ad j = ad0 j) (hle : n9 ≤ W9.length) (hm : mexc (mkk X) pc x L W9 cells slots = some a) (hK : mK X ad ad0 n9 W9.length a) : mGoX X cells slots ad L r W9 pc x := by
  have hck := mhck_ok hk9
  obtain ⟨p, l, e, R, s, m, args, below, meth, c, Q, A, dC, dI, dA, adR, RO, k⟩ := X
  obtain ⟨hx, hb, hml, hown, ⟨hwA, hwN⟩, hA, hK9, hRO, hROA, hlk, hrt, hfr, hlo, hini⟩ := hX
  obtain ⟨hE9, hst9, htab⟩ := hY
  intro H locs ls q9 ce hP hD hS hn hw hL hr hl hce hcv hcl
  have htab : c.exceptionTable.toList = tableOf (mhh k) := htab
  have hck : (decide (mhh k = (mhx k).map (fun q => (q.1, q.2.1, q.2.2.1, q.2.2.2.1))) && (mhx k).all (mhck1 k)) = true := hck
  simp only [Bool.and_eq_true, decide_eq_true_eq] at hck
  obtain ⟨hck1, hck2⟩ := hck
  have hm : mexc k pc x L W9 cells slots = some a := hm
  unfold mexc at hm
  split at hm
  · rename_i hnil
    cases hm
    obtain ⟨-, -, hF⟩ := hK
    have hQ : Q = _ := hF
    rw [hQ]
    refine vx_out (E := mexn x) (ce := ce) (fun y hy => ?_) hlk hce hcv hcl (fun t ht _ => ⟨⟨x, ad, rfl, rfl, hag, by rw [ht]; exact hP, hD, hn, hw, hle⟩, hS.F ht⟩) hS.2.2 (Nat.le_refl _) (Nat.le_refl _)
    rw [htab, hck1, hnil] at hy
    cases hy
  · split at hm
    · rename_i i nx hf
      cases hb9 : (okp L i && Nat.blt x 3) with
      | false => rw [hb9] at hm; cases hm
      | true =>
        rw [hb9] at hm
        cases hm
        simp only [Bool.and_eq_true] at hb9
        obtain ⟨hok, hx4⟩ := hb9
        have hx4 : x < 3 := Nat.le_of_ble_eq_true hx4
        obtain ⟨-, -, kk⟩ := hK
        obtain ⟨pre, q, suf, e1, e2, e3, e4, e5, e6⟩ := mfh_spec _ hf
        have hcq : ∀ z ∈ mhx k, mhck1 k z = true := fun z hz => List.all_eq_true.mp hck2 z hz
        have hq1 := hcq q (by rw [e1]; simp)
        unfold mhck1 at hq1
        simp only [Bool.and_eq_true, Bool.not_eq_true'] at hq1
        obtain ⟨⟨⟨⟨⟨c1, c2⟩, c3⟩, c4⟩, c5⟩, c6⟩ := hq1
        have hct : q.2.2.2.1 ≠ 0 := fun h => by rw [h] at c1; cases c1
        rw [e3] at c3 c4
        subst e4
        subst e5
        have kkk : ∀ ls', lv_has ls' (mml k) ((q.2.2.2.2.2.1, Value.ref q9) :: (lqq (mz adR ad) 0 L).filter (fun z => !(z.1 == q.2.2.2.2.2.1) && !(z.1 + 1 == q.2.2.2.2.2.1 && z.2.category == 2))) → W p l e R s m args below meth c H locs cells slots Q (F0 m (q.2.2.1 + q.2.2.2.2.2.2.1) ls' []) := fun ls' h' =>
          kk ad (fun _ _ => rfl) H locs ls' hP hD hS hn hw (wv_set (fun _ h => by cases h) hL) (fun _ h => by cases h) (lz_unk hl hok h')
        refine vx_catch (E := mexn x) (ce := ce) hown (pre.map (fun z => (⟨z.1, z.2.1, z.2.2.1, z.2.2.2.1⟩ : ExceptionTableEntry))) ⟨q.1, q.2.1, q.2.2.1, q.2.2.2.1⟩ (suf.map (fun z => (⟨z.1, z.2.1, z.2.2.1, z.2.2.2.1⟩ : ExceptionTableEntry))) ?_ ?_ ?_ hct (mwd hwN (wck_1 c3) (wck_2 c3)) (mwd hwN (wck_1 c4) (wck_2 c4)) hce hcv hcl ?_
        · rw [htab, hck1, e1]
          simp [tableOf, Function.comp_def]
        · intro z hz
          obtain ⟨y, hy, rfl⟩ := List.mem_map.mp hz
          by_cases hcv9 : y.1 ≤ pc ∧ pc < y.2.1
          · right
            have hy1 := hcq y (by rw [e1]; exact List.mem_append_left _ hy)
            unfold mhck1 at hy1
            simp only [Bool.and_eq_true, Bool.not_eq_true'] at hy1
            obtain ⟨⟨⟨⟨⟨g1, g2⟩, g3⟩, g4⟩, g5⟩, g6⟩ := hy1
            refine ⟨fun h => (by rw [show y.2.2.2.1 = 0 from h] at g1; cases g1), mexn y.2.2.2.2.1, mwd hwN (wck_1 g3) (wck_2 g3), hE9.2.2.2.2.1 x _ hx4 (Nat.le_of_ble_eq_true g2) (fun h => e6 y hy ⟨hcv9, h.symm⟩)⟩
          · left
            show (decide (y.1 ≤ pc) && decide (pc < y.2.1)) = false
            rw [← Bool.not_eq_true, Bool.and_eq_true, decide_eq_true_eq, decide_eq_true_eq]
            exact hcv9
        · show (decide (q.1 ≤ pc) && decide (pc < q.2.1)) = true
          rw [Bool.and_eq_true, decide_eq_true_eq, decide_eq_true_eq]
          exact e2
        · split at c6
          · rename_i j hdc
            simp only [Bool.and_eq_true] at c6
            have h1 := Nat.eq_of_beq_eq_true c6.1
            have h2 := Nat.eq_of_beq_eq_true c6.2
            rw [h2] at kkk
            rw [← h1] at hdc
            exact lv_astore hx hb hdc (lz_has hl) (Nat.le_of_ble_eq_true c5) rfl kkk
          · rename_i j hdc
            simp only [Bool.and_eq_true] at c6
            have h1 := Nat.eq_of_beq_eq_true c6.1
            have h2 := Nat.eq_of_beq_eq_true c6.2
            rw [h2] at kkk
            exact lv_astore_n hx hb hdc h1.symm (lz_has hl) (Nat.le_of_ble_eq_true c5) rfl kkk
          · cases c6
    · cases hm
end SIM
