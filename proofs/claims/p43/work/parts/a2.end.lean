/-! THE CLAIM OUT OF ONE WALK OF THE LAW'S BODY. Your part is whole_start (and what it stands on); all else here is the same for every law, but numbers. -/
def R_law : String := "MuleTrainLaw"
def lw_P (b : Addr) (xs : List Int32) (args : Array Value) (s : State) : Prop := args = #[.ref b] ∧ s.IntsAt b xs ∧ xs.length ≤ 260 ∧ (Jvm.Cond.and given_1 narrow_1).before args s = true
/-- what a walk over the start with the record d0 says of its end, said of the start itself -/
theorem lw_closed {s t : State} {o : Outcome} {d0 : Drawn} {L : List Loc} {k n : Nat} (hd0 : s.drawn.sameBut d0 lw_cs) (hv : ∃ v, o = .returned v) (hW : (s.setDrawn d0).WarmedH t.vm) (hs : (s.setDrawn d0).sameButNew ({ t with vm := s.vm } : State) L k n) : State.butDraws s t lw_cs (fun t1 => Framed s o t1 L k n) := by
  have h2 : t.drawn = d0 := congrArg State.drawn hs.1
  refine ⟨⟨hv, hW, State.sameButNew.setDrawn hs s.drawn⟩, ?_, by decide⟩
  rw [h2]
  exact hd0
def lw_Q (_ : Array Value) (s : State) (o : Outcome) (t : State) : Prop := o = .returned (some (.int 1)) ∧ State.butDraws s t lw_cs (fun t1 => Framed s o t1 [] 600086 7301442)
def lw_Z (below : List Frame) (a : Array Value) (s : State) : State → Prop := fun t => ∃ o, t.status = .running ∧ Ended t below o ∧ lw_Q a s o t
/-- what holds at the law's entry: the machine, the code, the tables' words (any of lw_tbl by 'hts w (by decide +kernel)'), the script of L ints xs at the cell b, what the Statement gives of the start (any of its parts by flat_of_before) -/
def lw_At (p : Program) (s : State) (m : MethodId) (meth : Method) (c : Code) (b L : Nat) (xs : Nat → Int32) : Prop :=
  p.tables.exec = Jvm.exec ∧ c.code = code ∧ meth.sig.returnType = ret ∧ c.maxLocals = 11 ∧ s.vm.findClass R_law = some m.cls ∧ (∀ w ∈ lw_tbl, w.before #[Value.ref b] s = true) ∧ va_X b L xs s s.heap ∧ b < s.heap.size ∧ meth.locks = false ∧ (Jvm.Cond.and given_1 narrow_1).before #[Value.ref b] s = true
theorem wE_RO (hs : Nat → Int32) (len : Nat) (f : Nat → Int32) : ∀ e ∈ RO9 hs len f, wE 0 e := by
  intro e he
  obtain ⟨j, hj⟩ := List.getElem?_of_mem he
  have hl : j < 109 := (List.getElem?_eq_some_iff.mp hj).1
  by_cases h6 : j < 106
  · have hi : j / 2 < strD.length := by rw [strD_len]; omega
    obtain ⟨g1, g2⟩ := RO9_str hs len f (j / 2) _ (List.getElem?_eq_getElem hi)
    rcases (show j = 2 * (j / 2) ∨ j = 2 * (j / 2) + 1 by omega) with h9 | h9
    · rw [← h9, hj] at g1
      cases Option.some.inj g1
      intro v hv r e9
      rcases List.mem_cons.mp hv with h | h
      · rw [h] at e9
        cases e9
        exact Or.inr (Nat.le_trans (Nat.le_of_ble_eq_true rfl : 1000000 ≤ 1000001) (Nat.le_add_right _ _))
      · rw [List.mem_singleton.mp h] at e9
        cases e9
    · rw [← h9, hj] at g2
      cases Option.some.inj g2
      exact trivial
  · rcases (show j = 106 ∨ j = 107 ∨ j = 108 by omega) with rfl | rfl | rfl
    · cases Option.some.inj ((RO9_dig hs len f).1.symm.trans hj)
      exact trivial
    · cases Option.some.inj ((RO9_dig hs len f).2.1.symm.trans hj)
      exact trivial
    · cases Option.some.inj ((RO9_dig hs len f).2.2.symm.trans hj)
      exact trivial
theorem no_traces {l : Launch} (hflags : l.flags = flags0) : l.stackTraces = false := by
  unfold Launch.stackTraces
  rw [hflags]
  decide +kernel
/-- what the machine's end says is the law's end -/
theorem lw_end {below : List Frame} {b : Nat} {s t : State} {A : Nat → Prop} {Qc : Array Value → State → Outcome → State → Prop} {XC : String → State → State → Prop} {mc ms : Nat} (hA : ∀ q, A q → s.heap.size ≤ q) (hQ : ∀ a st o t, Qc a st o t → o = .returned (some (.int 1))) (hX : ∀ E st t, ¬ XC E st t) (hmc : mc ≤ 600086) (hms : ms ≤ 7301442) (h : vx_MQ below Qc XC #[Value.ref b] s mc ms A t) : lw_Z below #[Value.ref b] s t := by
  obtain ⟨o, c1, c2, hq⟩ := h
  rcases hq with ⟨hq, L9, hfr, hfree⟩ | ⟨q, -, E, ce, L9, hx, -⟩
  · have ho := hQ _ _ _ _ hq
    exact ⟨o, c1, c2, ho, lw_closed (d0 := s.drawn) (Drawn.sameBut.refl s.drawn lw_cs) hfr.1 hfr.2.1 (hfr.2.2.weaken (fun x hx hlt => absurd hlt (Nat.not_lt.mpr (hA _ (hfree x hx)))) hmc hms)⟩
  · exact (hX _ _ _ hx).elim
set_option maxRecDepth 100000 in
/-- the law, from its entry -/
theorem whole_start {p : Program} {e : Env} {s : State} {m : MethodId} {below : List Frame} {meth : Method} {c : Code} (l : Launch) (hflags : l.flags = flags0) {b L : Nat} {xs : Nat → Int32} (hL : L ≤ 260) (C0 : lw_At p s m meth c b L xs) (htab : ∀ x ∈ c.exceptionTable.toList, False) : W p l e room_1 s m #[Value.ref b] below meth c s.heap [] 0 0 (lw_Z below #[Value.ref b] s) (entryFrame m ([Value.ref b] : List Value).toArray 11) := by
  obtain ⟨hx, hb, hr, hml, hown, hts, hX9, hbl, hlocks, hgv⟩ := C0
  rw [Cond.before_and, Bool.and_eq_true] at hgv
  have hst := no_traces hflags
  have hA : ∀ a : Nat, a < s.heap.size → ¬ (fun q : Nat => s.heap.size ≤ q) a := fun a h => Nat.not_le.mpr h
  obtain ⟨dC, dI, dA, hK⟩ := beg_K hts
  obtain ⟨adR, h108, hRO, hROA, hE⟩ := beg_RO (A := fun q : Nat => s.heap.size ≤ q) (fun _ => 0) hts hgv.2 hX9 hbl hK hA
  obtain ⟨G', M', mc, ms, F, n, hrun, hmc, hms⟩ := law_all (hs := fun _ => 0) (d := 0) (len := L) (f := xs) (by omega)
  have hro := wE_RO (fun _ => 0) L xs
  have htab9 : c.exceptionTable.toList = tableOf (mhh 375) := by
    cases hq : c.exceptionTable.toList with
    | nil => rfl
    | cons a b => exact (htab a (by rw [hq]; exact List.mem_cons_self)).elim
  have hwA : ∀ w ∈ wA, w.before #[Value.ref b] s = true := fun w h => hts w (List.mem_filter.mp h).1
  have hwN : ∀ w ∈ wN, w.before #[Value.ref b] s = true := fun w h => hts w (List.mem_filter.mp h).1
  generalize hQ9 : (vx_MQ below (fun _ st oc t => mQr dC dI dA adR (fun _ => 0) 0 (.inl (some (.int 1))) (wof G' M') (fun q : Nat => s.heap.size ≤ q) oc t ∧ va_F (fun q : Nat => s.heap.size ≤ q) st t) (fun E st t => mQx dC dI dA adR (fun _ => 0) 0 (.inl (some (.int 1))) (wof G' M') (fun q : Nat => s.heap.size ≤ q) E t ∧ va_F (fun q : Nat => s.heap.size ≤ q) st t) #[Value.ref b] s mc ms (fun q : Nat => s.heap.size ≤ q)) = Q9
  have hX : mCx (p, l, e, room_1, s, m, #[Value.ref b], below, meth, c, Q9, (fun q : Nat => s.heap.size ≤ q), dC, dI, dA, adR, RO9 (fun _ => 0) L xs, 375) := ⟨hx, hb, hml, hown, ⟨hwA, hwN⟩, fun q h => h, hK, hRO, hROA, hlocks, hr, by show 30 ≤ 2048; omega, by show 300 ≤ 84000; omega, fun h => absurd h (by decide)⟩
  have hY : mCy (p, l, e, room_1, s, m, #[Value.ref b], below, meth, c, Q9, (fun q : Nat => s.heap.size ≤ q), dC, dI, dA, adR, RO9 (fun _ => 0) L xs, 375) := ⟨hE, hst, htab9⟩
  have go := mgo_sim (X := (p, l, e, room_1, s, m, #[Value.ref b], below, meth, c, Q9, (fun q : Nat => s.heap.size ≤ q), dC, dI, dA, adR, RO9 (fun _ => 0) L xs, 375)) (ad0 := fun _ => 0) (n9 := 0) (d := 30) (call := mrun (RO9 (fun _ => 0) L xs) F 30) hX hY hro (by show 375 < 376; omega) (fun k9 as9 W8 o9 W7 mc9 ms9 h9 => mrun_con hst hro (fun d i n W9 h0 h1 => h_lib hst hro d i n W9 h0 h1) F 30 k9 as9 W8 o9 W7 mc9 ms9 h9) (mrun_len _ F 30) ⟨by show 30 + 31 ≤ 2048; omega, by show 60 * (30 + 1) + 300 ≤ 84000; omega⟩ n (fun _ => 0) _ _ [] 0 0 0 _ _ mc ms (fun _ _ => rfl) (Nat.le_refl _) (by show mc ≤ 600086; omega) (by show ms ≤ 7301442; omega) hQ9.symm hrun
  have hlz := lz_entry (z := mz adR (fun _ => 0)) (as := [.ref 1000108]) (n := 11) (fun v hv => by rw [List.mem_singleton.mp hv]; rfl) (by decide)
  have hent : entryFrame m ([Value.ref b] : List Value).toArray 11 = F0 m 0 ((lg_sl (([.ref 1000108] : List Value).map (cz (mz adR (fun _ => 0)))) ++ List.replicate (11 - (lg_sl (([.ref 1000108] : List Value).map (cz (mz adR (fun _ => 0))))).length) Slot.unset).toArray) [] := by
    have e1 : ([Value.ref b] : List Value) = ([.ref 1000108] : List Value).map (cz (mz adR (fun _ => 0))) := by
      show [Value.ref b] = [Value.ref (adR 108)]
      rw [h108]
    rw [e1]
    exact lg_entry_eq m _ 11
  have hwas : wv 0 ([.ref 1000108] : List Value) := fun v hv r e9 => by
    rw [List.mem_singleton.mp hv] at e9
    cases e9
    exact Or.inr (by decide)
  have hP0 : va_P (dC, dI) vwCl (cw dA (mz adR (fun _ => 0)) (fun _ => 0) []) s.heap := fun k q h => by
    rw [cw_at] at h
    cases h
  have hD0 : va_D (fun q : Nat => s.heap.size ≤ q) (cw dA (mz adR (fun _ => 0)) (fun _ => 0) []) := by
    refine ⟨fun i j p9 q h => ?_, fun k q h => ?_⟩
    · rw [cw_at] at h
      cases h
    · rw [cw_at] at h
      cases h
  have fin := go s.heap [] _ hP0 hD0 va_S.rf (Nat.zero_le _) (fun e h => by cases h) (wv_loc (k := 375) hwas) (fun v hv => by cases hv) hlz
  rw [hent]
  intro T hT X9
  obtain ⟨t, a1, b1⟩ := fin T hT X9
  refine ⟨t, a1, ?_⟩
  rw [← hQ9] at b1
  refine lw_end (fun q h => h) (fun a st o t h => ?_) (fun E st t h => ?_) (by omega) (by omega) b1
  · obtain ⟨⟨v, ad', ho, hoc, -⟩, -⟩ := h
    cases ho
    exact hoc
  · obtain ⟨⟨x9, ad', ho, -⟩, -⟩ := h
    cases ho
