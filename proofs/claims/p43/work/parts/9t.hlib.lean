/-! String.checkIndex: the check that stands in Preconditions, whatever it is given to speak with -/
theorem di_0 : decode (mby 318) 0 = .ok (.iload_n 0, 1) := by decide +kernel
theorem di_1 : decode (mby 318) 1 = .ok (.ifCond .lt 8, 3) := by decide +kernel
theorem di_4 : decode (mby 318) 4 = .ok (.iload_n 0, 1) := by decide +kernel
theorem di_5 : decode (mby 318) 5 = .ok (.iload_n 1, 1) := by decide +kernel
theorem di_6 : decode (mby 318) 6 = .ok (.if_icmp .lt 10, 3) := by decide +kernel
theorem di_16 : decode (mby 318) 16 = .ok (.iload_n 0, 1) := by decide +kernel
theorem di_17 : decode (mby 318) 17 = .ok (.ireturn, 1) := by decide +kernel
theorem dj_2 : decode (mby 287) 2 = .ok (.getstatic 1053, 3) := by decide +kernel
theorem dj_5 : decode (mby 287) 5 = .ok (.invokestatic 1059, 3) := by decide +kernel
theorem hcl_318 : mcl[318]? = some (318, 1169) := by decide +kernel
theorem hcl_287 : mcl[287]? = some (287, 1164) := by decide +kernel
set_option maxRecDepth 100000 in
theorem c_idx (l : Launch) {d : Nat} {i n : Int32} {v : Value} (h0 : ¬ i < 0) (h1 : i < n) (hv : v = .null ∨ ∃ t, v = .ref t) : Met l (mnm 318) (mws 318) (mrm d 0 0) (va_Pc [.int i, .int n, v] (fun _ => True)) (va_Qi (fun (r : Int32) (_ : Unit) => r = i) (fun _ _ => True) (fun _ => False)) 0 0 (fun _ => False) := by
  refine Met.ofW (cc := mby 318) (maxL := mml 318) (ret := mret 318) (mcl_plain hcl_318) (mws_eq (k := 318) rfl) ?_
  intro p e s m args below meth c s₁ B hml hv9
  obtain ⟨rfl, -⟩ := hv9
  have hx := B.exec
  have hb := B.bytes
  have hr : meth.sig.returnType = some .int := B.returns
  have hlocks := B.notSynchronized
  have hl : ∃ ls : Array Slot, entryFrame m ([.int i, .int n, v] : List Value).toArray (mml 318) = F0 m 0 ls [] ∧ lv_has ls 3 [(0, .int i), (1, .int n), (2, v)] := by
    rcases hv with rfl | ⟨t, rfl⟩
    · exact ⟨_, lg_entry_eq m [.int i, .int n, .null] 3, lv_entry [.int i, .int n, .null] (n := 3) (Nat.le_of_ble_eq_true rfl)⟩
    · exact ⟨_, lg_entry_eq m [.int i, .int n, .ref t] 3, lv_entry [.int i, .int n, .ref t] (n := 3) (Nat.le_of_ble_eq_true rfl)⟩
  obtain ⟨ls, he, hl⟩ := hl
  rw [he]
  refine lv_iload_n hx hb di_0 rfl (lv_at hl 0 rfl) ?_
  refine lv_if_lt hx hb (tgt := 9) di_1 rfl (fun h => absurd h h0) (fun _ => ?_)
  refine lv_iload_n hx hb di_4 rfl (lv_at hl 0 rfl) ?_
  refine lv_iload_n hx hb di_5 rfl (lv_at hl 1 rfl) ?_
  refine lv_icmp_lt hx hb (tgt := 16) di_6 rfl (fun _ => ?_) (fun h => absurd h1 h)
  refine lv_iload_n hx hb di_16 rfl (lv_at hl 0 rfl) ?_
  exact W.iret (v := i) hx hb hr (fun t ht hW => ⟨⟨i, (), rfl, rfl, trivial⟩, (va_S.rf (A := fun _ => False)).F ht⟩) (fun q h => by cases h) di_17
set_option maxRecDepth 100000 in
theorem h_lib {l : Launch} (hst : l.stackTraces = false) {RO : List mE} (hro : ∀ e ∈ RO, wE 0 e) (d : Nat) (i n : Int32) (W9 : List mE) (h0 : ¬ i < 0) (h1 : i < n) : mCon l RO 287 (d + 1) [.int i, .int n] W9 (.inl none) W9 0 0 := by
  intro hwas dC dI dA adR ad sz
  refine vx_ofW (mcl_plain hcl_287) (mws_eq (k := 287) rfl) (fun p e s m args below meth c s₁ B hml ht hv => ?_)
  obtain ⟨rfl, hsz, hP, hK, hD0, hn, hw, hRO, hROA, hE⟩ := hv
  subst hsz
  have htab : c.exceptionTable.toList = tableOf (mhh 287) := by
    cases hq : c.exceptionTable.toList with
    | nil => rfl
    | cons a b => exact (ht a (by rw [hq]; exact List.mem_cons_self)).elim
  have hts := atoms_spec (ws := mws 287) B.pre
  have hwA : ∀ w ∈ wA, w.before _ s = true := fun w h => hts w (List.mem_cons_of_mem _ h)
  have hwN := wN_of hwA hE.2.2.2.1
  generalize hQ9 : (vx_MQ below (fun _ st oc t => mQr dC dI dA adR ad W9.length (.inl none) W9 (va_A (cw dA (mz adR ad) ad W9) s.heap.size) oc t ∧ va_F (va_A (cw dA (mz adR ad) ad W9) s.heap.size) st t) (fun E st t => mQx dC dI dA adR ad W9.length (.inl none) W9 (va_A (cw dA (mz adR ad) ad W9) s.heap.size) E t ∧ va_F (va_A (cw dA (mz adR ad) ad W9) s.heap.size) st t) (([.int i, .int n] : List Value).map (cz (mz adR ad))).toArray s 0 0 (va_A (cw dA (mz adR ad) ad W9) s.heap.size)) = Q9
  have hX : mCx (p, l, e, mrm (d + 1) 0 0, s, m, (([.int i, .int n] : List Value).map (cz (mz adR ad))).toArray, below, meth, c, Q9, va_A (cw dA (mz adR ad) ad W9) s.heap.size, dC, dI, dA, adR, RO, 287) := by
    refine ⟨B.exec, B.bytes, hml, findClass_of_methodNamed B.named, ⟨hwA, hwN⟩, fun q h => Or.inr h, hK, hRO, fun j hj => ⟨(hROA j hj).1, ?_⟩, B.notSynchronized, B.returns, ?_, ?_, fun hm => (name_of_methodNamed B.named B.method).1.trans (mini_at (by omega) hm)⟩
    · rintro (⟨j2, e9, h9⟩ | h9)
      · rw [cw_at] at h9
        cases hw2 : W9[j2]? with
        | none => rw [hw2] at h9; cases h9
        | some e2 =>
          rw [hw2] at h9
          exact (hROA j hj).2 j2 (List.getElem?_eq_some_iff.mp hw2).1 (congrArg Prod.fst (Option.some.inj h9))
      · exact Nat.lt_irrefl _ (Nat.lt_of_lt_of_le (hROA j hj).1 h9)
    · show 30 ≤ d + 1 + 30; omega
    · show 300 ≤ 60 * (d + 1) + 300; omega
  have hY : mCy (p, l, e, mrm (d + 1) 0 0, s, m, (([.int i, .int n] : List Value).map (cz (mz adR ad))).toArray, below, meth, c, Q9, va_A (cw dA (mz adR ad) ad W9) s.heap.size, dC, dI, dA, adR, RO, 287) := ⟨hE, hst, htab⟩
  have g8 : ∀ a9 : Nat → Nat, (∀ j, j < W9.length → a9 j = ad j) → mGo (p, l, e, mrm (d + 1) 0 0, s, m, (([.int i, .int n] : List Value).map (cz (mz adR ad))).toArray, below, meth, c, Q9, va_A (cw dA (mz adR ad) ad W9) s.heap.size, dC, dI, dA, adR, RO, 287) 0 0 a9 [.int i, .int n] [.int i] W9 8 := by
    intro a9 ha
    exact mgo_sim (d := d) (call := fun _ _ _ => none) (ad0 := ad) (n9 := W9.length) hX hY hro (by show 287 < 376; omega) (fun k9 as9 W8 o9 W7 mc9 ms9 h9 => by cases h9) (fun k9 as9 W8 o9 W7 mc9 ms9 h9 => by cases h9) ⟨by show d + 31 ≤ d + 1 + 30; omega, Nat.le_refl _⟩ 2 a9 [.int i, .int n] [.int i] W9 8 0 0 (.inl none) W9 0 0 ha (Nat.le_refl _) (Nat.le_refl _) (Nat.le_refl _) hQ9.symm rfl
  have g2 : ∀ a9 : Nat → Nat, (∀ j, j < W9.length → a9 j = ad j) → mGo (p, l, e, mrm (d + 1) 0 0, s, m, (([.int i, .int n] : List Value).map (cz (mz adR ad))).toArray, below, meth, c, Q9, va_A (cw dA (mz adR ad) ad W9) s.heap.size, dC, dI, dA, adR, RO, 287) 0 0 a9 [.int i, .int n] [.int n, .int i] W9 2 := by
    intro a9 ha H locs ls hP1 hD1 hS1 hn1 hw1 hL1 hs1 hl1
    have hwd : ∀ (n : Nat) (w : Cond), wat n = some w → gw w = true → w.before _ s = true := fun n w h g => mwd hwN h g
    have hx := B.exec
    have hb := B.bytes
    have hown : s.vm.findClass "java/lang/String" = some m.cls := findClass_of_methodNamed B.named
    have key : ∀ v : Value, (v = .null ∨ ∃ t, v = .ref t) → va_Z "jdk/internal/util/Preconditions" "SIOOBE_FORMATTER" "Ljava/util/function/BiFunction;" v (va_A (cw dA (mz adR ad) ad W9) s.heap.size) s s.heap → W p l e (mrm (d + 1) 0 0) s m (([.int i, .int n] : List Value).map (cz (mz adR ad))).toArray below meth c H locs 0 0 Q9 (F0 m 2 ls [.int n, .int i]) := by
      intro v hv hZ
      have hv1 : (([] : List Value).map fun v => v.category).sum ≤ 8 := by decide
      refine va_gets hx hb hZ hS1 hown (hwd 1165 _ rfl rfl) (fun _ h9 => h9) dj_2 ?_
      refine va_calli (A0 := va_A (cw dA (mz adR ad) ad W9) s.heap.size) (A1 := fun _ => False) (va_runS (As := [.int i, .int n, v]) (rest := []) ⟨hx, hb, hml, hown, hwA⟩ (c_idx l (d := d) h0 h1 hv) ⟨callB_of 3 hwA (mws_good hcl_318) (mws_eq (k := 318) rfl) rfl rfl (hwd 1007 _ rfl rfl) (hwd 1167 _ rfl rfl) ⟨(mcl_hd hcl_318).1, (mcl_hd hcl_318).2, by decide +kernel⟩ ⟨by show d + 30 + 1 ≤ d + 1 + 30; omega, by show 8 + (3 + 11) + (60 * d + 300) ≤ 60 * (d + 1) + 300; omega⟩, hwd 1168 _ rfl rfl⟩ ⟨fun a U g mk h => ⟨h.1, trivial⟩, fun U hU hW => ⟨rfl, trivial⟩⟩ rfl rfl hl1.1 rfl (Nat.le_of_ble_eq_true rfl) dj_5 ⟨Nat.le_refl _, Nat.le_refl _⟩) hS1 (fun _ _ h => h.elim) (fun _ h => h.elim) (fun r u t H1 locs1 ht9 hal hpost hB hsz hk9 hS2 => ?_)
      cases hpost
      have e9 : ∀ q : Nat, q < H.size → H1[q]? = H[q]? := fun q hq => hk9 q hq (fun h => h)
      exact g8 a9 ha H1 locs1 ls (hP1.kept (fun k q hk => e9 q.1 (hP1 k q hk).lt)) hD1 hS2 hn1 hw1 hL1 (fun v hv9 r e => by cases List.mem_singleton.mp hv9; cases e) hl1
    rcases hE.2.2.2.2.2.2.2.2.1 with hZ | ⟨t, hZ⟩
    · exact key _ (Or.inl rfl) hZ
    · exact key _ (Or.inr ⟨t, rfl⟩) hZ
  have hstep : ∀ (pc nx : Nat) (x : Nat) (st st' : List Value), cd 287 pc = some (0, 27, nx, [x], .null) → mstep RO (fun _ _ _ => none) 287 pc (0, 27, nx, [x], .null) [.int i, .int n] st W9 0 0 = some (.inl ([.int i, .int n], st', W9, nx, 0, 0)) → (∀ a9 : Nat → Nat, (∀ j, j < W9.length → a9 j = ad j) → mGo (p, l, e, mrm (d + 1) 0 0, s, m, (([.int i, .int n] : List Value).map (cz (mz adR ad))).toArray, below, meth, c, Q9, va_A (cw dA (mz adR ad) ad W9) s.heap.size, dC, dI, dA, adR, RO, 287) 0 0 a9 [.int i, .int n] st' W9 nx) → ∀ a9 : Nat → Nat, (∀ j, j < W9.length → a9 j = ad j) → mGo (p, l, e, mrm (d + 1) 0 0, s, m, (([.int i, .int n] : List Value).map (cz (mz adR ad))).toArray, below, meth, c, Q9, va_A (cw dA (mz adR ad) ad W9) s.heap.size, dC, dI, dA, adR, RO, 287) 0 0 a9 [.int i, .int n] st W9 pc := by
    intro pc nx x st st' hc hm hk a9 ha
    exact mstep_sim (d := d) (call := fun _ _ _ => none) (ad0 := ad) (n9 := W9.length) hX hY hro (by show 287 < 376; omega) (Nat.le_refl _) (Nat.le_refl _) ha (Nat.le_refl _) (fun k9 as9 W8 o9 W7 mc9 ms9 h9 => by cases h9) ⟨by show d + 31 ≤ d + 1 + 30; omega, Nat.le_refl _⟩ (cd_ok _ _ _ hc) hm ⟨Nat.le_refl _, Nat.le_refl _, fun a8 h8 => hk a8 (fun j hj => (h8 j hj).trans (ha j hj))⟩
  have g0 := hstep 0 1 0 [] [.int i] rfl rfl (hstep 1 2 1 [.int i] [.int n, .int i] rfl rfl g2) ad (fun _ _ => rfl)
  rw [lg_entry_eq]
  exact g0 s.heap [] _ hP (hD0.self) va_S.rf hn hw hwas (fun v hv => by cases hv) (lz_entry (as := [.int i, .int n]) (n := 2) (fun v hv => by
    rcases List.mem_cons.mp hv with rfl | hv
    · rfl
    · rw [List.mem_singleton.mp hv]; rfl) (Nat.le_refl _))
