/-! the words of the classes; what cells hold, read and written -/
def uns (ci : Nat) : List Nat := (bif Nat.blt ci 3 then (bif Nat.blt ci 1 then (bif Nat.beq ci 0 then [5093, 5095, 5097, 5099] else []) else (bif Nat.blt ci 2 then (bif Nat.beq ci 1 then [3022, 3024, 3026, 3028] else []) else (bif Nat.beq ci 2 then [2234, 2236, 2238] else []))) else (bif Nat.blt ci 5 then (bif Nat.blt ci 4 then (bif Nat.beq ci 3 then [1113, 1115, 1117, 1119, 1121, 1123, 1125, 1127, 1129, 1131, 1133] else []) else (bif Nat.beq ci 4 then [1056, 1058, 1060] else [])) else (bif Nat.blt ci 6 then (bif Nat.beq ci 5 then [1084, 1086, 1088, 1090, 1092, 1094, 1096] else []) else (bif Nat.beq ci 6 then [3040, 3042, 3044, 3046, 3048, 3050, 3052, 3054] else []))))
def uok (ci : Nat) : Bool := match vwCl[ci]? with
  | some (C, T, N) => Nat.beq (u_ws C T N).length (uns ci).length && ((u_ws C T N).zip (uns ci)).all (fun q => decide (wat q.2 = some q.1) && gw q.1)
  | none => false
theorem uok_all : ∀ ci ∈ [0, 1, 2, 3, 4, 5, 6], uok ci = true := by decide +kernel
def tyf (ci : Nat) : Nat → FieldType := (bif Nat.blt ci 3 then (bif Nat.blt ci 1 then (bif Nat.beq ci 0 then tyJ0 else tyX0) else (bif Nat.blt ci 2 then (bif Nat.beq ci 1 then tyJ4 else tyX0) else (bif Nat.beq ci 2 then tyX0 else tyX0))) else (bif Nat.blt ci 5 then (bif Nat.blt ci 4 then (bif Nat.beq ci 3 then tyX1 else tyX0) else (bif Nat.beq ci 4 then tyX2 else tyX0)) else (bif Nat.blt ci 6 then (bif Nat.beq ci 5 then tyX3 else tyX0) else (bif Nat.beq ci 6 then tyX4 else tyX0))))
theorem tyf_ok : ∀ (ci : Nat) (C : String) (T : u_T) (N : Nat), vwCl[ci]? = some (C, T, N) → (∀ k, k < N → parseFieldDescriptor (T k).2.2.1 = some (tyf ci k)) ∧ ∀ a, a < N → ∀ b, b < N → a ≠ b → (T a).2.1 ≠ (T b).2.1 := by
  intro ci C T N h
  match ci, h with
  | 0, h => cases h; exact ⟨tyJ0_ok, nmJ0⟩
  | 1, h => cases h; exact ⟨tyJ4_ok, nmJ4⟩
  | 2, h => cases h; exact ⟨tyX0_ok, nmX0⟩
  | 3, h => cases h; exact ⟨tyX1_ok, nmX1⟩
  | 4, h => cases h; exact ⟨tyX2_ok, nmX2⟩
  | 5, h => cases h; exact ⟨tyX3_ok, nmX3⟩
  | 6, h => cases h; exact ⟨tyX4_ok, nmX4⟩
  | j + 7, h => simp [vwCl] at h
theorem uok_at {ci : Nat} {C : String} {T : u_T} {N : Nat} (hu : uok ci = true) (hc : vwCl[ci]? = some (C, T, N)) {P : Cond → Prop} (hwd : ∀ (n : Nat) (w : Cond), wat n = some w → gw w = true → P w) : ∀ w ∈ u_ws C T N, P w := by
  intro w hw
  rw [uok, hc] at hu
  simp only [Bool.and_eq_true] at hu
  obtain ⟨h1, h2⟩ := hu
  obtain ⟨i, hi⟩ := List.getElem?_of_mem hw
  have h3 : i < (uns ci).length := by
    rw [← Nat.eq_of_beq_eq_true h1]
    exact (List.getElem?_eq_some_iff.mp hi).1
  have h4 := List.all_eq_true.mp h2 (w, (uns ci)[i]) (List.mem_of_getElem? (i := i) (by rw [List.getElem?_zip_eq_some]; exact ⟨hi, List.getElem?_eq_getElem h3⟩))
  simp only [Bool.and_eq_true, decide_eq_true_eq] at h4
  exact hwd _ _ h4.1 h4.2
theorem m_read {s : State} {A : Nat → Prop} {dC : Nat → ClassId} {dI : Nat → Nat → Nat} {dA : Nat → ClassId} {adR ad : Nat → Nat} {RO W9 : List mE} {q : Nat} {e : mE}
    (hRO : ∀ (ad : Nat → Nat) (j : Nat) (e : mE), RO[j]? = some e → ro_at dC dI (mz adR ad) (adR j) e A s s.heap) (hROA : ∀ j, j < RO.length → adR j < s.heap.size ∧ ¬ A (adR j)) (hg : mget RO W9 q = some e) :
    (cw dA (mz adR ad) ad W9)[q]? = some (mz adR ad q, czE dA (mz adR ad) e) ∨ (ro_at dC dI (mz adR ad) (mz adR ad q) e A s s.heap ∧ mz adR ad q < s.heap.size ∧ ¬ A (mz adR ad q)) := by
  unfold mget at hg
  cases hq : Nat.blt q 1000000 with
  | true =>
    rw [hq] at hg
    refine Or.inl ?_
    rw [cw_at, show W9[q]? = some e from hg]
    simp [mz, hq]
  | false =>
    rw [hq] at hg
    have hg : RO[q - 1000000]? = some e := hg
    have hz : mz adR ad q = adR (q - 1000000) := by simp [mz, hq]
    rw [hz]
    exact Or.inr ⟨hRO ad _ e hg, hROA _ (List.getElem?_eq_some_iff.mp hg).1⟩
section ROG
variable {p : Program} {l : Launch} {e : Env} {R : Room} {s : State} {m : MethodId} {args : Array Value} {below : List Frame} {meth : Method} {c : Code} {H : Heap} {locs : List Loc} {cells slots : Nat} {Q : State → Prop}
variable {cc : ByteArray} {pc : Nat} {ls : Array Slot} {rest : List Value} {A : Nat → Prop} {dC : Nat → ClassId} {dI : Nat → Nat → Nat} {tys : List (ClassId × FieldType)} {a : Nat}
theorem ro_get (hexec : p.tables.exec = Jvm.exec) (hb : c.code = cc) {own ref C : String} {T : u_T} {N ci index : Nat} {Ts : List Cond} (hts : ∀ w ∈ Ts, w.before args s = true) (hin : ∀ w ∈ u_ws C T N, w ∈ Ts) (hown : s.vm.findClass own = some m.cls) (hK : va_K (dC, dI) vwCl tys s) (hS : va_S A s.heap H locs) {fs : List Value} (hO : ro_ob dC dI ci fs a s.heap) (hlt : a < s.heap.size) (hna : ¬ A a) (hc : vwCl[ci]? = some (C, T, N)) (k : Nat) (hk : k < N) (hlink : (Cond.fieldLink own index ref (T k).2.1 (T k).2.2.1).before args s = true) (hsame : ∀ x, s.fieldFound? (T k).1 (T k).2.1 (T k).2.2.1 = some x → s.fieldFound? ref (T k).2.1 (T k).2.2.1 = some x) {v : Value} (hv : fs[k]? = some v) (hdg : decode cc pc = .ok (.getfield index, 3))
    (kk : W p l e R s m args below meth c H locs cells slots Q (F0 m (pc + 3) ls (v :: rest))) : W p l e R s m args below meth c H locs cells slots Q (F0 m pc ls (.ref a :: rest)) := by
  obtain ⟨r, cell, h1, q1, q2, q3, q4⟩ := hO
  have hr : r = (C, T, N) := Option.some.inj (h1.symm.trans hc)
  subst hr
  obtain ⟨hS9, hfc, kC, hkC, hkind⟩ := hK.1 ci _ hc
  obtain ⟨cf, kf, fi, f, hi, hsl⟩ := hS9 k hk
  refine W.getf hexec hb hown hlink (hsame _ hi) (u_facts hfc hkC (u_lays hts hin hk) hi).1 ((hS.2.1 a hlt hna).trans q1) q3.1 (v := v) ?_ rfl rfl hdg kk
  rw [hsl]
  exact q4 k v hv
theorem ro_getN (hexec : p.tables.exec = Jvm.exec) (hb : c.code = cc) {own ref C host : String} {T : u_T} {N ci index : Nat} {Ts : List Cond} (hts : ∀ w ∈ Ts, w.before args s = true) (hin : ∀ w ∈ u_ws C T N, w ∈ Ts) (hown : s.vm.findClass own = some m.cls) (hK : va_K (dC, dI) vwCl tys s) (hS : va_S A s.heap H locs) {fs : List Value} (hO : ro_ob dC dI ci fs a s.heap) (hlt : a < s.heap.size) (hna : ¬ A a) (hc : vwCl[ci]? = some (C, T, N)) (k : Nat) (hk : k < N) (hlink : (Cond.fieldLinkNest own index ref (T k).2.1 (T k).2.2.1 host).before args s = true) (hsame : ∀ x, s.fieldFound? (T k).1 (T k).2.1 (T k).2.2.1 = some x → s.fieldFound? ref (T k).2.1 (T k).2.2.1 = some x) {v : Value} (hv : fs[k]? = some v) (hdg : decode cc pc = .ok (.getfield index, 3))
    (kk : W p l e R s m args below meth c H locs cells slots Q (F0 m (pc + 3) ls (v :: rest))) : W p l e R s m args below meth c H locs cells slots Q (F0 m pc ls (.ref a :: rest)) := by
  obtain ⟨r, cell, h1, q1, q2, q3, q4⟩ := hO
  have hr : r = (C, T, N) := Option.some.inj (h1.symm.trans hc)
  subst hr
  obtain ⟨hS9, hfc, kC, hkC, hkind⟩ := hK.1 ci _ hc
  obtain ⟨cf, kf, fi, f, hi, hsl⟩ := hS9 k hk
  refine va_Wgetf hexec hb hown hlink (hsame _ hi) (u_facts hfc hkC (u_lays hts hin hk) hi).1 ((hS.2.1 a hlt hna).trans q1) q3.1 (v := v) ?_ rfl rfl hdg kk
  rw [hsl]
  exact q4 k v hv
end ROG
/-- whose method is called -/
theorem m_recv {s : State} {A : Nat → Prop} {dC : Nat → ClassId} {dI : Nat → Nat → Nat} {dA : Nat → ClassId} {adR ad : Nat → Nat} {RO W9 : List mE} {H : Heap} {locs : List Loc} {q ci N : Nat} {C : String} {T : u_T} {fs : List Value} {tys : List (ClassId × FieldType)} (hK : va_K (dC, dI) vwCl tys s)
    (hRO : ∀ (ad : Nat → Nat) (j : Nat) (e : mE), RO[j]? = some e → ro_at dC dI (mz adR ad) (adR j) e A s s.heap) (hROA : ∀ j, j < RO.length → adR j < s.heap.size ∧ ¬ A (adR j)) (hP : va_P (dC, dI) vwCl (cw dA (mz adR ad) ad W9) H) (hS : va_S A s.heap H locs) (hc : vwCl[ci]? = some (C, T, N)) (hg : mget RO W9 q = some (.inr (ci, fs))) :
    ∃ cell : Cell, H[mz adR ad q]? = some cell ∧ cell.vm.isStatics = false ∧ s.vm.findClass C = some cell.cls := by
  rcases m_read (dA := dA) (ad := ad) hRO hROA hg with hat | ⟨hr, hlt, hna⟩
  · exact va_recv hK hP hc hat
  · obtain ⟨r, cell, h1, q1, q2, q3, q4⟩ := hr
    exact ⟨cell, (hS.2.1 _ hlt hna).trans q1, q3.2, by rw [q2]; exact (hK.1 ci _ hc).2.1⟩
theorem mget_lt {RO W9 : List mE} {q : Nat} (h : Nat.blt q 1000000 = true) : mget RO W9 q = W9[q]? := by rw [mget, h]; rfl
theorem tyL_at (dA : Nat → ClassId) : (tyL dA)[0]? = some (dA 0, .byte) ∧ (tyL dA)[1]? = some (dA 1, .int) ∧ (tyL dA)[2]? = some (dA 2, .boolean) ∧ (tyL dA)[3]? = some (dA 3, .object "MuleTrain$Train") := ⟨rfl, rfl, rfl, rfl⟩
theorem mz_lt {adR ad : Nat → Nat} {q : Nat} (h : Nat.blt q 1000000 = true) : mz adR ad q = ad q := by rw [mz, h]; rfl
theorem wfl_get {n : Nat} {ci : Nat} {fs : List Value} {k : Nat} {v : Value} (h : wE n (.inr (ci, fs))) (hv : fs[k]? = some v) : ∀ r, v = .ref r → r < n ∨ 1000000 ≤ r := wv_get (show wv n fs from h) hv
theorem mget_wE {RO W9 : List mE} {q : Nat} {e : mE} {n : Nat} (hw : wW n W9) (hr : ∀ e ∈ RO, wE 0 e) (hg : mget RO W9 q = some e) : wE n e := by
  unfold mget at hg
  cases hq : Nat.blt q 1000000 with
  | true => rw [hq] at hg; exact wW_get hw hg
  | false => rw [hq] at hg; exact wE_mono (Nat.zero_le n) (hr e (List.mem_of_getElem? (show RO[q - 1000000]? = some e from hg)))
section HEAP
variable {X : mX} {cells slots : Nat} {ad : Nat → Nat} {L r : List Value} {W9 : List mE} {pc : Nat}
theorem o_getfield (hX : mCx X) (hro : ∀ e ∈ mRO X, wE 0 e) {C : String} {T : u_T} {N ci kf index n q : Nat} {fs : List Value} {v : Value} (hc : vwCl[ci]? = some (C, T, N)) (hu : uok ci = true) (hk : kf < N) (hw1 : wat n = some (.fieldLink (mnm (mkk X)).cls index (T kf).1 (T kf).2.1 (T kf).2.2.1)) (hw2 : gw (.fieldLink (mnm (mkk X)).cls index (T kf).1 (T kf).2.1 (T kf).2.2.1) = true)
    (hg : mget (mRO X) W9 q = some (.inr (ci, fs))) (hv : fs[kf]? = some v) (hd : decode (mby (mkk X)) pc = .ok (.getfield index, 3)) (kk : mGo X cells slots ad L (v :: r) W9 (pc + 3)) : mGo X cells slots ad L (.ref q :: r) W9 pc := by
  obtain ⟨p, l, e, R, s, m, args, below, meth, c, Q, A, dC, dI, dA, adR, RO, k⟩ := X
  obtain ⟨hx, hb, hml, hown, ⟨hwA, hwN⟩, hA, hK, hRO, hROA, hlk, hrt, hfr, hlo, hini⟩ := hX
  have hwd : ∀ (n : Nat) (w : Cond), wat n = some w → gw w = true → w.before args s = true := fun n w h g => mwd hwN h g
  intro H locs ls hP hD hS hn hw hL hs hl
  rcases m_read (dA := dA) (ad := ad) hRO hROA hg with hat | ⟨hr9, hlt9, hna9⟩
  · exact va_get (D := (dC, dI)) (cl := vwCl) (tys := tyL dA) hx hb (Ts := u_ws C T N) (uok_at hu hc hwd) (fun _ h => h) hown hK hP q hat hc kf hk (hwd _ _ hw1 hw2) (fun _ h => h) (v := cz (mz adR ad) v) (by rw [List.getElem?_map, hv]; rfl) hd (kk H locs ls hP hD hS hn hw hL (wv_cons (wfl_get (mget_wE hw hro hg) hv) (wv_tail hs)) hl)
  · exact ro_get hx hb (Ts := u_ws C T N) (uok_at hu hc hwd) (fun _ h => h) hown hK hS hr9 hlt9 hna9 hc kf hk (hwd _ _ hw1 hw2) (fun _ h => h) (v := cz (mz adR ad) v) (by rw [List.getElem?_map, hv]; rfl) hd (kk H locs ls hP hD hS hn hw hL (wv_cons (wfl_get (mget_wE hw hro hg) hv) (wv_tail hs)) hl)
theorem o_getfieldN (hX : mCx X) (hro : ∀ e ∈ mRO X, wE 0 e) {C host : String} {T : u_T} {N ci kf index n q : Nat} {fs : List Value} {v : Value} (hc : vwCl[ci]? = some (C, T, N)) (hu : uok ci = true) (hk : kf < N) (hw1 : wat n = some (.fieldLinkNest (mnm (mkk X)).cls index (T kf).1 (T kf).2.1 (T kf).2.2.1 host)) (hw2 : gw (.fieldLinkNest (mnm (mkk X)).cls index (T kf).1 (T kf).2.1 (T kf).2.2.1 host) = true)
    (hg : mget (mRO X) W9 q = some (.inr (ci, fs))) (hv : fs[kf]? = some v) (hd : decode (mby (mkk X)) pc = .ok (.getfield index, 3)) (kk : mGo X cells slots ad L (v :: r) W9 (pc + 3)) : mGo X cells slots ad L (.ref q :: r) W9 pc := by
  obtain ⟨p, l, e, R, s, m, args, below, meth, c, Q, A, dC, dI, dA, adR, RO, k⟩ := X
  obtain ⟨hx, hb, hml, hown, ⟨hwA, hwN⟩, hA, hK, hRO, hROA, hlk, hrt, hfr, hlo, hini⟩ := hX
  have hwd : ∀ (n : Nat) (w : Cond), wat n = some w → gw w = true → w.before args s = true := fun n w h g => mwd hwN h g
  intro H locs ls hP hD hS hn hw hL hs hl
  rcases m_read (dA := dA) (ad := ad) hRO hROA hg with hat | ⟨hr9, hlt9, hna9⟩
  · exact va_getN (D := (dC, dI)) (cl := vwCl) (tys := tyL dA) hx hb (Ts := u_ws C T N) (uok_at hu hc hwd) (fun _ h => h) hown hK hP q hat hc kf hk (hwd _ _ hw1 hw2) (fun _ h => h) (v := cz (mz adR ad) v) (by rw [List.getElem?_map, hv]; rfl) hd (kk H locs ls hP hD hS hn hw hL (wv_cons (wfl_get (mget_wE hw hro hg) hv) (wv_tail hs)) hl)
  · exact ro_getN hx hb (Ts := u_ws C T N) (uok_at hu hc hwd) (fun _ h => h) hown hK hS hr9 hlt9 hna9 hc kf hk (hwd _ _ hw1 hw2) (fun _ h => h) (v := cz (mz adR ad) v) (by rw [List.getElem?_map, hv]; rfl) hd (kk H locs ls hP hD hS hn hw hL (wv_cons (wfl_get (mget_wE hw hro hg) hv) (wv_tail hs)) hl)
theorem o_putfield (hX : mCx X) {C : String} {T : u_T} {N ci kf index n q : Nat} {fs : List Value} {v : Value} (hc : vwCl[ci]? = some (C, T, N)) (hu : uok ci = true) (hk : kf < N) (hfin : (T kf).2.2.2 = false) (hw1 : wat n = some (.fieldLink (mnm (mkk X)).cls index (T kf).1 (T kf).2.1 (T kf).2.2.1)) (hw2 : gw (.fieldLink (mnm (mkk X)).cls index (T kf).1 (T kf).2.1 (T kf).2.2.1) = true)
    (hq : Nat.blt q 1000000 = true) (hg : W9[q]? = some (.inr (ci, fs))) (hnw : ∀ z, narrow (tyf ci kf) (cz z v) = cz z v) (hft : ∀ z, fits (tyf ci kf) (cz z v) = true) (hlen : kf < fs.length) (hd : decode (mby (mkk X)) pc = .ok (.putfield index, 3)) (kk : mGo X cells slots ad L r (W9.set q (.inr (ci, fs.set kf v))) (pc + 3)) : mGo X cells slots ad L (v :: .ref q :: r) W9 pc := by
  obtain ⟨p, l, e, R, s, m, args, below, meth, c, Q, A, dC, dI, dA, adR, RO, k⟩ := X
  obtain ⟨hx, hb, hml, hown, ⟨hwA, hwN⟩, hA, hK, hRO, hROA, hlk, hrt, hfr, hlo, hini⟩ := hX
  have hwd : ∀ (n : Nat) (w : Cond), wat n = some w → gw w = true → w.before args s = true := fun n w h g => mwd hwN h g
  intro H locs ls hP hD hS hn hw hL hs hl
  have hlt := (List.getElem?_eq_some_iff.mp hg).1
  have hz : mz adR ad q = ad q := mz_lt hq
  show W p l e R s m args below meth c H locs cells slots Q (F0 m pc ls (cz (mz adR ad) v :: .ref (mz adR ad q) :: r.map (cz (mz adR ad))))
  rw [hz]
  refine va_put (D := (dC, dI)) (cl := vwCl) (tys := tyL dA) hx hb (Ts := u_ws C T N) (uok_at hu hc hwd) (fun _ h => h) (tyf ci) (tyf_ok ci C T N hc).1 (tyf_ok ci C T N hc).2 hown hK hP hD hS q (fs := fs.map (cz (mz adR ad))) (by rw [cw_at, hg]; rfl) hc kf hk (hwd _ _ hw1 hw2) (fun _ h => h) hfin ((tyf_ok ci C T N hc).1 kf hk) (hnw _) (hft _) (by rw [List.length_map]; exact hlen) hd (fun H1 locs1 hP1 hD1 hS1 => ?_)
  have he : (cw dA (mz adR ad) ad W9).set q (ad q, .inr (ci, (fs.map (cz (mz adR ad))).set kf (cz (mz adR ad) v))) = cw dA (mz adR ad) ad (W9.set q (.inr (ci, fs.set kf v))) := by
    rw [← cw_set]
    show _ = (cw dA (mz adR ad) ad W9).set q (ad q, .inr (ci, (fs.set kf v).map (cz (mz adR ad))))
    rw [List.map_set]
  rw [he] at hP1 hD1
  have hfs : wv W9.length fs := wW_get hw hg
  exact kk H1 locs1 ls hP1 hD1 hS1 (by rw [List.length_set]; exact hn) (by rw [List.length_set]; exact wW_set (show wv _ (fs.set kf v) from wv_set (hs _ List.mem_cons_self) hfs) hw) (by rw [List.length_set]; exact hL) (by rw [List.length_set]; exact wv_tail (wv_tail hs)) hl
theorem o_putfieldN (hX : mCx X) {C host : String} {T : u_T} {N ci kf index n q : Nat} {fs : List Value} {v : Value} (hc : vwCl[ci]? = some (C, T, N)) (hu : uok ci = true) (hk : kf < N) (hfin : (T kf).2.2.2 = false) (hw1 : wat n = some (.fieldLinkNest (mnm (mkk X)).cls index (T kf).1 (T kf).2.1 (T kf).2.2.1 host)) (hw2 : gw (.fieldLinkNest (mnm (mkk X)).cls index (T kf).1 (T kf).2.1 (T kf).2.2.1 host) = true)
    (hq : Nat.blt q 1000000 = true) (hg : W9[q]? = some (.inr (ci, fs))) (hnw : ∀ z, narrow (tyf ci kf) (cz z v) = cz z v) (hft : ∀ z, fits (tyf ci kf) (cz z v) = true) (hlen : kf < fs.length) (hd : decode (mby (mkk X)) pc = .ok (.putfield index, 3)) (kk : mGo X cells slots ad L r (W9.set q (.inr (ci, fs.set kf v))) (pc + 3)) : mGo X cells slots ad L (v :: .ref q :: r) W9 pc := by
  obtain ⟨p, l, e, R, s, m, args, below, meth, c, Q, A, dC, dI, dA, adR, RO, k⟩ := X
  obtain ⟨hx, hb, hml, hown, ⟨hwA, hwN⟩, hA, hK, hRO, hROA, hlk, hrt, hfr, hlo, hini⟩ := hX
  have hwd : ∀ (n : Nat) (w : Cond), wat n = some w → gw w = true → w.before args s = true := fun n w h g => mwd hwN h g
  intro H locs ls hP hD hS hn hw hL hs hl
  have hlt := (List.getElem?_eq_some_iff.mp hg).1
  have hz : mz adR ad q = ad q := mz_lt hq
  show W p l e R s m args below meth c H locs cells slots Q (F0 m pc ls (cz (mz adR ad) v :: .ref (mz adR ad q) :: r.map (cz (mz adR ad))))
  rw [hz]
  refine va_putN (D := (dC, dI)) (cl := vwCl) (tys := tyL dA) hx hb (Ts := u_ws C T N) (uok_at hu hc hwd) (fun _ h => h) (tyf ci) (tyf_ok ci C T N hc).1 (tyf_ok ci C T N hc).2 hown hK hP hD hS q (fs := fs.map (cz (mz adR ad))) (by rw [cw_at, hg]; rfl) hc kf hk (hwd _ _ hw1 hw2) (fun _ h => h) hfin ((tyf_ok ci C T N hc).1 kf hk) (hnw _) (hft _) (by rw [List.length_map]; exact hlen) hd (fun H1 locs1 hP1 hD1 hS1 => ?_)
  have he : (cw dA (mz adR ad) ad W9).set q (ad q, .inr (ci, (fs.map (cz (mz adR ad))).set kf (cz (mz adR ad) v))) = cw dA (mz adR ad) ad (W9.set q (.inr (ci, fs.set kf v))) := by
    rw [← cw_set]
    show _ = (cw dA (mz adR ad) ad W9).set q (ad q, .inr (ci, (fs.set kf v).map (cz (mz adR ad))))
    rw [List.map_set]
  rw [he] at hP1 hD1
  have hfs : wv W9.length fs := wW_get hw hg
  exact kk H1 locs1 ls hP1 hD1 hS1 (by rw [List.length_set]; exact hn) (by rw [List.length_set]; exact wW_set (show wv _ (fs.set kf v) from wv_set (hs _ List.mem_cons_self) hfs) hw) (by rw [List.length_set]; exact hL) (by rw [List.length_set]; exact wv_tail (wv_tail hs)) hl
theorem o_putfieldF (hX : mCx X) {C : String} {T : u_T} {N ci kf index n q : Nat} {fs : List Value} {v : Value} (hc : vwCl[ci]? = some (C, T, N)) (hu : uok ci = true) (hk : kf < N) (hfin : (T kf).2.2.2 = true) (hmi : mini (mkk X) = true) (hdecl : (T kf).1 = (mnm (mkk X)).cls) (hw1 : wat n = some (.fieldLink (mnm (mkk X)).cls index (T kf).1 (T kf).2.1 (T kf).2.2.1)) (hw2 : gw (.fieldLink (mnm (mkk X)).cls index (T kf).1 (T kf).2.1 (T kf).2.2.1) = true)
    (hq : Nat.blt q 1000000 = true) (hg : W9[q]? = some (.inr (ci, fs))) (hnw : ∀ z, narrow (tyf ci kf) (cz z v) = cz z v) (hft : ∀ z, fits (tyf ci kf) (cz z v) = true) (hlen : kf < fs.length) (hd : decode (mby (mkk X)) pc = .ok (.putfield index, 3)) (kk : mGo X cells slots ad L r (W9.set q (.inr (ci, fs.set kf v))) (pc + 3)) : mGo X cells slots ad L (v :: .ref q :: r) W9 pc := by
  obtain ⟨p, l, e, R, s, m, args, below, meth, c, Q, A, dC, dI, dA, adR, RO, k⟩ := X
  obtain ⟨hx, hb, hml, hown, ⟨hwA, hwN⟩, hA, hK, hRO, hROA, hlk, hrt, hfr, hlo, hini⟩ := hX
  have hwd : ∀ (n : Nat) (w : Cond), wat n = some w → gw w = true → w.before args s = true := fun n w h g => mwd hwN h g
  intro H locs ls hP hD hS hn hw hL hs hl
  have hlt := (List.getElem?_eq_some_iff.mp hg).1
  have hz : mz adR ad q = ad q := mz_lt hq
  show W p l e R s m args below meth c H locs cells slots Q (F0 m pc ls (cz (mz adR ad) v :: .ref (mz adR ad q) :: r.map (cz (mz adR ad))))
  rw [hz]
  refine va_putF (D := (dC, dI)) (cl := vwCl) (tys := tyL dA) hx hb (Ts := u_ws C T N) (uok_at hu hc hwd) (fun _ h => h) (tyf ci) (tyf_ok ci C T N hc).1 (tyf_ok ci C T N hc).2 hown hK hP hD hS q (fs := fs.map (cz (mz adR ad))) (by rw [cw_at, hg]; rfl) hc kf hk (hwd _ _ hw1 hw2) (fun _ h => h) hfin (hini hmi) hdecl ((tyf_ok ci C T N hc).1 kf hk) (hnw _) (hft _) (by rw [List.length_map]; exact hlen) hd (fun H1 locs1 hP1 hD1 hS1 => ?_)
  have he : (cw dA (mz adR ad) ad W9).set q (ad q, .inr (ci, (fs.map (cz (mz adR ad))).set kf (cz (mz adR ad) v))) = cw dA (mz adR ad) ad (W9.set q (.inr (ci, fs.set kf v))) := by
    rw [← cw_set]
    show _ = (cw dA (mz adR ad) ad W9).set q (ad q, .inr (ci, (fs.set kf v).map (cz (mz adR ad))))
    rw [List.map_set]
  rw [he] at hP1 hD1
  have hfs : wv W9.length fs := wW_get hw hg
  exact kk H1 locs1 ls hP1 hD1 hS1 (by rw [List.length_set]; exact hn) (by rw [List.length_set]; exact wW_set (show wv _ (fs.set kf v) from wv_set (hs _ List.mem_cons_self) hfs) hw) (by rw [List.length_set]; exact hL) (by rw [List.length_set]; exact wv_tail (wv_tail hs)) hl
theorem o_iald (hX : mCx X) {n q : Nat} {f : Nat → Int32} {i : Int32} (hg : mget (mRO X) W9 q = some (.inl (1, n, .inl f))) (hi : vp_in i n) (hd : decode (mby (mkk X)) pc = .ok (.iaload, 1)) (kk : mGo X cells slots ad L (.int (f i.toNatClampNeg) :: r) W9 (pc + 1)) : mGo X cells slots ad L (.int i :: .ref q :: r) W9 pc := by
  obtain ⟨p, l, e, R, s, m, args, below, meth, c, Q, A, dC, dI, dA, adR, RO, k⟩ := X
  obtain ⟨hx, hb, hml, hown, ⟨hwA, hwN⟩, hA, hK, hRO, hROA, hlk, hrt, hfr, hlo, hini⟩ := hX
  have hwd : ∀ (n : Nat) (w : Cond), wat n = some w → gw w = true → w.before args s = true := fun n w h g => mwd hwN h g
  intro H locs ls hP hD hS hn hw hL hs hl
  rcases m_read (dA := dA) (ad := ad) hRO hROA hg with hat | ⟨hr9, hlt9, hna9⟩
  · exact va_iald (D := (dC, dI)) (cl := vwCl) (tys := tyL dA) hx hb hK hP q 1 hat rfl hi hd (kk H locs ls hP hD hS hn hw hL (wv_cons (fun _ e => by cases e) (wv_tail (wv_tail hs))) hl)
  · rcases hr9 with ⟨h9, -⟩ | ⟨-, hX9⟩
    · exact absurd h9 (by decide)
    · exact va_sld hx hb hX9 hlt9 hna9 hS hi hd (kk H locs ls hP hD hS hn hw hL (wv_cons (fun _ e => by cases e) (wv_tail (wv_tail hs))) hl)
theorem o_bald (hX : mCx X) {n q : Nat} {f : Nat → Int32} {i : Int32} (hg : mget (mRO X) W9 q = some (.inl (0, n, .inl f))) (hi : vp_in i n) (hd : decode (mby (mkk X)) pc = .ok (.baload, 1)) (kk : mGo X cells slots ad L (.int (f i.toNatClampNeg) :: r) W9 (pc + 1)) : mGo X cells slots ad L (.int i :: .ref q :: r) W9 pc := by
  obtain ⟨p, l, e, R, s, m, args, below, meth, c, Q, A, dC, dI, dA, adR, RO, k⟩ := X
  obtain ⟨hx, hb, hml, hown, ⟨hwA, hwN⟩, hA, hK, hRO, hROA, hlk, hrt, hfr, hlo, hini⟩ := hX
  have hwd : ∀ (n : Nat) (w : Cond), wat n = some w → gw w = true → w.before args s = true := fun n w h g => mwd hwN h g
  intro H locs ls hP hD hS hn hw hL hs hl
  rcases m_read (dA := dA) (ad := ad) hRO hROA hg with hat | ⟨hr9, hlt9, hna9⟩
  · exact va_bald (D := (dC, dI)) (cl := vwCl) (tys := tyL dA) hx hb hK hP q 0 hat rfl hi hd (kk H locs ls hP hD hS hn hw hL (wv_cons (fun _ e => by cases e) (wv_tail (wv_tail hs))) hl)
  · rcases hr9 with ⟨-, hT9⟩ | ⟨h9, -⟩
    · exact va_tb hx hb hT9 hS hi (v := .int (f i.toNatClampNeg)) rfl hd (kk H locs ls hP hD hS hn hw hL (wv_cons (fun _ e => by cases e) (wv_tail (wv_tail hs))) hl)
    · exact absurd h9 (by decide)
theorem o_zald (hX : mCx X) {n q : Nat} {f : Nat → Int32} {i : Int32} (hg : mget (mRO X) W9 q = some (.inl (2, n, .inl f))) (hi : vp_in i n) (hd : decode (mby (mkk X)) pc = .ok (.baload, 1)) (kk : mGo X cells slots ad L (.int (f i.toNatClampNeg) :: r) W9 (pc + 1)) : mGo X cells slots ad L (.int i :: .ref q :: r) W9 pc := by
  obtain ⟨p, l, e, R, s, m, args, below, meth, c, Q, A, dC, dI, dA, adR, RO, k⟩ := X
  obtain ⟨hx, hb, hml, hown, ⟨hwA, hwN⟩, hA, hK, hRO, hROA, hlk, hrt, hfr, hlo, hini⟩ := hX
  have hwd : ∀ (n : Nat) (w : Cond), wat n = some w → gw w = true → w.before args s = true := fun n w h g => mwd hwN h g
  intro H locs ls hP hD hS hn hw hL hs hl
  rcases m_read (dA := dA) (ad := ad) hRO hROA hg with hat | ⟨hr9, hlt9, hna9⟩
  · exact va_zald (D := (dC, dI)) (cl := vwCl) (tys := tyL dA) hx hb hK hP q 2 hat rfl hi hd (kk H locs ls hP hD hS hn hw hL (wv_cons (fun _ e => by cases e) (wv_tail (wv_tail hs))) hl)
  · rcases hr9 with ⟨h9, -⟩ | ⟨h9, -⟩
    · exact absurd h9 (by decide)
    · exact absurd h9 (by decide)
theorem o_iast (hX : mCx X) {n q : Nat} {f : Nat → Int32} {i : Int32} {x : Int32} (hq : Nat.blt q 1000000 = true) (hg : W9[q]? = some (.inl (1, n, .inl f))) (hi : vp_in i n) (hd : decode (mby (mkk X)) pc = .ok (.iastore, 1)) (kk : mGo X cells slots ad L r (W9.set q (.inl (1, n, .inl (upd f i.toNatClampNeg x)))) (pc + 1)) : mGo X cells slots ad L (.int x :: .int i :: .ref q :: r) W9 pc := by
  obtain ⟨p, l, e, R, s, m, args, below, meth, c, Q, A, dC, dI, dA, adR, RO, k⟩ := X
  obtain ⟨hx, hb, hml, hown, ⟨hwA, hwN⟩, hA, hK, hRO, hROA, hlk, hrt, hfr, hlo, hini⟩ := hX
  have hwd : ∀ (n : Nat) (w : Cond), wat n = some w → gw w = true → w.before args s = true := fun n w h g => mwd hwN h g
  intro H locs ls hP hD hS hn hw hL hs hl
  have hz : mz adR ad q = ad q := mz_lt hq
  show W p l e R s m args below meth c H locs cells slots Q (F0 m pc ls (.int x :: .int i :: .ref (mz adR ad q) :: r.map (cz (mz adR ad))))
  rw [hz]
  refine va_iast (D := (dC, dI)) (cl := vwCl) (tys := tyL dA) hx hb hK hP hD hS q 1 (cA := dA 1) (n := n) (f := f) (by rw [cw_at, hg]; rfl) rfl hi hd (fun H1 locs1 hP1 hD1 hS1 => ?_)
  have he := cw_set dA (mz adR ad) ad W9 q (.inl (1, n, .inl (upd f i.toNatClampNeg x)))
  have hP2 : va_P (dC, dI) vwCl ((cw dA (mz adR ad) ad W9).set q (ad q, czE dA (mz adR ad) (.inl (1, n, .inl (upd f i.toNatClampNeg x))))) H1 := hP1
  have hD2 : va_D A ((cw dA (mz adR ad) ad W9).set q (ad q, czE dA (mz adR ad) (.inl (1, n, .inl (upd f i.toNatClampNeg x))))) := hD1
  rw [he] at hP2 hD2
  exact kk H1 locs1 ls hP2 hD2 hS1 (by rw [List.length_set]; exact hn) (by rw [List.length_set]; exact wW_set trivial hw) (by rw [List.length_set]; exact hL) (by rw [List.length_set]; exact wv_tail (wv_tail (wv_tail hs))) hl
theorem o_bast (hX : mCx X) {n q : Nat} {f : Nat → Int32} {i : Int32} {x : Int32} (hq : Nat.blt q 1000000 = true) (hg : W9[q]? = some (.inl (0, n, .inl f))) (hi : vp_in i n) (hd : decode (mby (mkk X)) pc = .ok (.bastore, 1)) (kk : mGo X cells slots ad L r (W9.set q (.inl (0, n, .inl (upd f i.toNatClampNeg (vp_nar .byte x))))) (pc + 1)) : mGo X cells slots ad L (.int x :: .int i :: .ref q :: r) W9 pc := by
  obtain ⟨p, l, e, R, s, m, args, below, meth, c, Q, A, dC, dI, dA, adR, RO, k⟩ := X
  obtain ⟨hx, hb, hml, hown, ⟨hwA, hwN⟩, hA, hK, hRO, hROA, hlk, hrt, hfr, hlo, hini⟩ := hX
  have hwd : ∀ (n : Nat) (w : Cond), wat n = some w → gw w = true → w.before args s = true := fun n w h g => mwd hwN h g
  intro H locs ls hP hD hS hn hw hL hs hl
  have hz : mz adR ad q = ad q := mz_lt hq
  show W p l e R s m args below meth c H locs cells slots Q (F0 m pc ls (.int x :: .int i :: .ref (mz adR ad q) :: r.map (cz (mz adR ad))))
  rw [hz]
  refine va_bast (D := (dC, dI)) (cl := vwCl) (tys := tyL dA) hx hb hK hP hD hS q 0 (cA := dA 0) (n := n) (f := f) (by rw [cw_at, hg]; rfl) rfl hi hd (fun H1 locs1 hP1 hD1 hS1 => ?_)
  have he := cw_set dA (mz adR ad) ad W9 q (.inl (0, n, .inl (upd f i.toNatClampNeg (vp_nar .byte x))))
  have hP2 : va_P (dC, dI) vwCl ((cw dA (mz adR ad) ad W9).set q (ad q, czE dA (mz adR ad) (.inl (0, n, .inl (upd f i.toNatClampNeg (vp_nar .byte x)))))) H1 := hP1
  have hD2 : va_D A ((cw dA (mz adR ad) ad W9).set q (ad q, czE dA (mz adR ad) (.inl (0, n, .inl (upd f i.toNatClampNeg (vp_nar .byte x)))))) := hD1
  rw [he] at hP2 hD2
  exact kk H1 locs1 ls hP2 hD2 hS1 (by rw [List.length_set]; exact hn) (by rw [List.length_set]; exact wW_set trivial hw) (by rw [List.length_set]; exact hL) (by rw [List.length_set]; exact wv_tail (wv_tail (wv_tail hs))) hl
theorem o_zast (hX : mCx X) {n q : Nat} {f : Nat → Int32} {i : Int32} {x : Int32} (hq : Nat.blt q 1000000 = true) (hg : W9[q]? = some (.inl (2, n, .inl f))) (hi : vp_in i n) (hd : decode (mby (mkk X)) pc = .ok (.bastore, 1)) (kk : mGo X cells slots ad L r (W9.set q (.inl (2, n, .inl (upd f i.toNatClampNeg (vp_nar .boolean x))))) (pc + 1)) : mGo X cells slots ad L (.int x :: .int i :: .ref q :: r) W9 pc := by
  obtain ⟨p, l, e, R, s, m, args, below, meth, c, Q, A, dC, dI, dA, adR, RO, k⟩ := X
  obtain ⟨hx, hb, hml, hown, ⟨hwA, hwN⟩, hA, hK, hRO, hROA, hlk, hrt, hfr, hlo, hini⟩ := hX
  have hwd : ∀ (n : Nat) (w : Cond), wat n = some w → gw w = true → w.before args s = true := fun n w h g => mwd hwN h g
  intro H locs ls hP hD hS hn hw hL hs hl
  have hz : mz adR ad q = ad q := mz_lt hq
  show W p l e R s m args below meth c H locs cells slots Q (F0 m pc ls (.int x :: .int i :: .ref (mz adR ad q) :: r.map (cz (mz adR ad))))
  rw [hz]
  refine va_zast (D := (dC, dI)) (cl := vwCl) (tys := tyL dA) hx hb hK hP hD hS q 2 (cA := dA 2) (n := n) (f := f) (by rw [cw_at, hg]; rfl) rfl hi hd (fun H1 locs1 hP1 hD1 hS1 => ?_)
  have he := cw_set dA (mz adR ad) ad W9 q (.inl (2, n, .inl (upd f i.toNatClampNeg (vp_nar .boolean x))))
  have hP2 : va_P (dC, dI) vwCl ((cw dA (mz adR ad) ad W9).set q (ad q, czE dA (mz adR ad) (.inl (2, n, .inl (upd f i.toNatClampNeg (vp_nar .boolean x)))))) H1 := hP1
  have hD2 : va_D A ((cw dA (mz adR ad) ad W9).set q (ad q, czE dA (mz adR ad) (.inl (2, n, .inl (upd f i.toNatClampNeg (vp_nar .boolean x)))))) := hD1
  rw [he] at hP2 hD2
  exact kk H1 locs1 ls hP2 hD2 hS1 (by rw [List.length_set]; exact hn) (by rw [List.length_set]; exact wW_set trivial hw) (by rw [List.length_set]; exact hL) (by rw [List.length_set]; exact wv_tail (wv_tail (wv_tail hs))) hl
theorem o_alen (hX : mCx X) {t n q : Nat} {a : (Nat → Int32) ⊕ (Nat → Int64) ⊕ (Nat → UInt32) ⊕ (Nat → UInt64) ⊕ (Nat → Option Nat)} (ht : t < 4) (hg : mget (mRO X) W9 q = some (.inl (t, n, a))) (hd : decode (mby (mkk X)) pc = .ok (.arraylength, 1)) (kk : mGo X cells slots ad L (.int (Int32.ofNat n) :: r) W9 (pc + 1)) : mGo X cells slots ad L (.ref q :: r) W9 pc := by
  obtain ⟨p, l, e, R, s, m, args, below, meth, c, Q, A, dC, dI, dA, adR, RO, k⟩ := X
  obtain ⟨hx, hb, hml, hown, ⟨hwA, hwN⟩, hA, hK, hRO, hROA, hlk, hrt, hfr, hlo, hini⟩ := hX
  have hwd : ∀ (n : Nat) (w : Cond), wat n = some w → gw w = true → w.before args s = true := fun n w h g => mwd hwN h g
  intro H locs ls hP hD hS hn hw hL hs hl
  obtain ⟨ty, hty⟩ : ∃ ty, (tyL dA)[t]? = some (dA t, ty) := by
    match t, ht with
    | 0, _ => exact ⟨_, rfl⟩
    | 1, _ => exact ⟨_, rfl⟩
    | 2, _ => exact ⟨_, rfl⟩
    | 3, _ => exact ⟨_, rfl⟩
  rcases m_read (dA := dA) (ad := ad) hRO hROA hg with hat | ⟨hr9, hlt9, hna9⟩
  · exact va_alen (D := (dC, dI)) (cl := vwCl) (tys := tyL dA) hx hb hK hP q t (x := czA (mz adR ad) (n, a)) hat hty rfl hd (kk H locs ls hP hD hS hn hw hL (wv_int (wv_tail hs)) hl)
  · cases a with
    | inl f =>
      rcases hr9 with ⟨-, hT9⟩ | ⟨-, hX9⟩
      · exact va_tlen hx hb hT9 hS rfl hd (kk H locs ls hP hD hS hn hw hL (wv_int (wv_tail hs)) hl)
      · exact va_slen hx hb hX9 hlt9 hna9 hS hd (kk H locs ls hP hD hS hn hw hL (wv_int (wv_tail hs)) hl)
    | inr f => exact hr9.elim
theorem cz_rf (z : Nat → Nat) (o9 : Option Nat) : cz z (va_rf o9) = va_rf (o9.map z) := by cases o9 <;> rfl
theorem o_aald (hX : mCx X) (hro : ∀ e ∈ mRO X, wE 0 e) {n q : Nat} {f : Nat → Option Nat} {i : Int32} (hg : mget (mRO X) W9 q = some (.inl (3, n, .inr (.inr (.inr (.inr f)))))) (hi : vp_in i n) (hd : decode (mby (mkk X)) pc = .ok (.aaload, 1)) (kk : mGo X cells slots ad L (va_rf (f i.toNatClampNeg) :: r) W9 (pc + 1)) : mGo X cells slots ad L (.int i :: .ref q :: r) W9 pc := by
  obtain ⟨p, l, e, R, s, m, args, below, meth, c, Q, A, dC, dI, dA, adR, RO, k⟩ := X
  obtain ⟨hx, hb, hml, hown, ⟨hwA, hwN⟩, hA, hK, hRO, hROA, hlk, hrt, hfr, hlo, hini⟩ := hX
  have hwd : ∀ (n : Nat) (w : Cond), wat n = some w → gw w = true → w.before args s = true := fun n w h g => mwd hwN h g
  intro H locs ls hP hD hS hn hw hL hs hl
  have hwe : wE W9.length (.inl (3, n, .inr (.inr (.inr (.inr f))))) := mget_wE hw hro hg
  have k9 := kk H locs ls hP hD hS hn hw hL (wv_cons (fun r9 e9 => by
    cases hf : f i.toNatClampNeg with
    | none => rw [hf] at e9; cases e9
    | some y =>
      rw [hf] at e9
      cases e9
      exact (show ∀ i r, f i = some r → r < W9.length ∨ 1000000 ≤ r from hwe) _ _ hf) (wv_tail (wv_tail hs))) hl
  rw [List.map_cons, cz_rf] at k9
  rcases m_read (dA := dA) (ad := ad) hRO hROA hg with hat | ⟨hr9, hlt9, hna9⟩
  · exact va_aldq (D := (dC, dI)) (cl := vwCl) (tys := tyL dA) hx hb hK hP q 3 hat rfl hi hd k9
  · exact hr9.elim
theorem o_aast (hX : mCx X) {n q v : Nat} {f : Nat → Option Nat} {i : Int32} {vs : List Value} (hq : Nat.blt q 1000000 = true) (hv : Nat.blt v 1000000 = true) (hg : W9[q]? = some (.inl (3, n, .inr (.inr (.inr (.inr f)))))) (hgv : W9[v]? = some (.inr (5, vs))) (hi : vp_in i n) (hd : decode (mby (mkk X)) pc = .ok (.aastore, 1)) (kk : mGo X cells slots ad L r (W9.set q (.inl (3, n, .inr (.inr (.inr (.inr (va_up f i.toNatClampNeg (some v)))))))) (pc + 1)) : mGo X cells slots ad L (.ref v :: .int i :: .ref q :: r) W9 pc := by
  obtain ⟨p, l, e, R, s, m, args, below, meth, c, Q, A, dC, dI, dA, adR, RO, k⟩ := X
  obtain ⟨hx, hb, hml, hown, ⟨hwA, hwN⟩, hA, hK, hRO, hROA, hlk, hrt, hfr, hlo, hini⟩ := hX
  have hwd : ∀ (n : Nat) (w : Cond), wat n = some w → gw w = true → w.before args s = true := fun n w h g => mwd hwN h g
  intro H locs ls hP hD hS hn hw hL hs hl
  have hz : mz adR ad q = ad q := mz_lt hq
  have hzv : mz adR ad v = ad v := mz_lt hv
  show W p l e R s m args below meth c H locs cells slots Q (F0 m pc ls (.ref (mz adR ad v) :: .int i :: .ref (mz adR ad q) :: r.map (cz (mz adR ad))))
  rw [hz, hzv]
  refine va_astq (D := (dC, dI)) (cl := vwCl) (tys := tyL dA) hx hb hK hP hD hS q 3 v 5 (cA := dA 3) (r := (RX3, TX3, 7)) (n := n) (v := ad v) (vs := vs.map (cz (mz adR ad))) (f := fun i => (f i).map (mz adR ad)) (by rw [cw_at, hg]; rfl) rfl (by rw [cw_at, hgv]; rfl) rfl hi hd (fun H1 locs1 hP1 hD1 hS1 => ?_)
  have he := cw_set dA (mz adR ad) ad W9 q (.inl (3, n, .inr (.inr (.inr (.inr (va_up f i.toNatClampNeg (some v)))))))
  have hf : (fun j => (va_up f i.toNatClampNeg (some v) j).map (mz adR ad)) = va_up (fun i => (f i).map (mz adR ad)) i.toNatClampNeg (some (ad v)) := by
    funext j
    by_cases hj : j = i.toNatClampNeg
    · simp [va_up, hj, hzv]
    · simp [va_up, hj]
  have hce : czE dA (mz adR ad) (.inl (3, n, .inr (.inr (.inr (.inr (va_up f i.toNatClampNeg (some v))))))) = .inl (dA 3, (n, .inr (.inr (.inr (.inr (va_up (fun i => (f i).map (mz adR ad)) i.toNatClampNeg (some (ad v)))))))) := by
    rw [← hf]; rfl
  rw [hce] at he
  rw [he] at hP1 hD1
  have hfw : ∀ i r, f i = some r → r < W9.length ∨ 1000000 ≤ r := wW_get hw hg
  have hvl := (List.getElem?_eq_some_iff.mp hgv).1
  exact kk H1 locs1 ls hP1 hD1 hS1 (by rw [List.length_set]; exact hn) (by
    rw [List.length_set]
    refine wW_set (show ∀ j r, va_up f i.toNatClampNeg (some v) j = some r → r < W9.length ∨ 1000000 ≤ r from fun j r9 h9 => ?_) hw
    by_cases hj : j = i.toNatClampNeg
    · simp [va_up, hj] at h9
      exact Or.inl (by omega)
    · simp [va_up, hj] at h9
      exact hfw j r9 h9) (by rw [List.length_set]; exact hL) (by rw [List.length_set]; exact wv_tail (wv_tail (wv_tail hs))) hl
end HEAP
