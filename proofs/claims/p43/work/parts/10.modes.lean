theorem mws_eq {k : Nat} (h : mhh k = []) : mws k = Cond.code (mnm k) (mby k) (mml k) (mret k) :: wA := by
  unfold mws mcw
  rw [h]
theorem mws_eqW {k : Nat} {a : Nat × Nat × Nat × Nat} {b : List (Nat × Nat × Nat × Nat)} (h : mhh k = a :: b) : mws k = Cond.codeWith (mnm k) (mby k) (mml k) (mret k) (mhh k) :: wA := by
  unfold mws mcw
  rw [h]
theorem mws_good {k n : Nat} (h : mcl[k]? = some (k, n)) : GoodIn wA (mws k) := by
  intro w hw
  rcases List.mem_cons.mp hw with h1 | h1
  · have h2 := (mcl_ok _ (List.mem_of_getElem? h)).1
    rw [h1]
    exact ⟨wA_mem h2.1 h2.2, good_of_word h2.2⟩
  · exact ⟨h1, good_of_word (List.mem_filter.mp h1).2⟩
theorem mcl_hd {k n : Nat} (h : mcl[k]? = some (k, n)) : (mnm k).cls ≠ "java/lang/invoke/MethodHandle" ∧ (mnm k).cls ≠ "java/lang/invoke/VarHandle" := by
  have h2 := (mcl_ok _ (List.mem_of_getElem? h)).2
  simp only [Bool.and_eq_true, decide_eq_true_eq] at h2
  exact ⟨h2.1.2, h2.2⟩
theorem mcl_plain {k n : Nat} (h : mcl[k]? = some (k, n)) : plainName (mnm k).cls = true := by
  have h2 := (mcl_ok _ (List.mem_of_getElem? h)).2
  simp only [Bool.and_eq_true, decide_eq_true_eq] at h2
  exact h2.1.1
section MODES
variable {X : mX} {cells slots : Nat} {ad : Nat → Nat} {L r : List Value} {W9 : List mE} {pc : Nat}
theorem m_callV (hX : mCx X) (hY : mCy X) {index k9 d mc ms n1 n2 n3 n4 n5 n6 n7 : Nat} {host : String} {ci q : Nat} {C : String} {T : u_T} {N : Nat} {fs : List Value} {as : List Value} {o : mO} {W' : List mE} (hM : mCon (mL X) (mRO X) k9 d (.ref q :: as) W9 o W' mc ms)
    (hw2 : wat n2 = some (.methodLink (mnm (mkk X)).cls index (mnm k9))) (hg2 : gw (.methodLink (mnm (mkk X)).cls index (mnm k9)) = true) (hw3 : wat n3 = some (.initialized (mnm k9).cls)) (hg3 : gw (.initialized (mnm k9).cls) = true) (hw4 : wat n4 = some (.instanceMethod (mnm k9))) (hg4 : gw (.instanceMethod (mnm k9)) = true) (hw5 : wat n5 = some (.selects (mnm k9).cls (mnm k9) (mnm k9))) (hg5 : gw (.selects (mnm k9).cls (mnm k9) (mnm k9)) = true)
    (hnh : mhh k9 = []) (hdesc : (parseMethodDescriptor (mnm k9).desc).map (fun d => d.parameters.length) = some as.length) (hci : vwCl[ci]? = some (C, T, N)) (hC : C = (mnm k9).cls) (hg : mget (mRO X) W9 q = some (.inr (ci, fs))) (hR : d + 31 ≤ (mRm X).frames ∧ 8 + (mml k9 + 11) + (60 * d + 300) ≤ (mRm X).locals) (hcells : cells + mc ≤ (mRm X).cells ∧ slots + ms ≤ (mRm X).slots) (hcl : mcl[k9]? = some (k9, n1)) (hr : mcs r = true) (hd : decode (mby (mkk X)) pc = .ok (.invokevirtual index, 3))
    (kk : ∀ v, o = .inl v → W9.length ≤ W'.length → ∀ ad' : Nat → Nat, (∀ j, j < W9.length → ad' j = ad j) → mGo X (cells + mc) (slots + ms) ad' L (v.toList ++ r) W' (pc + 3))
    (kx : ∀ x, o = .inr x → W9.length ≤ W'.length → ∀ ad' : Nat → Nat, (∀ j, j < W9.length → ad' j = ad j) → mGoX X (cells + mc) (slots + ms) ad' L r W' pc x) : mGo X cells slots ad L (as.reverse ++ .ref q :: r) W9 pc := by
  have hrun := fun hr9 => m_run (X := X) hX (st0 := (as.reverse ++ .ref q :: r).map (cz (mz X.2.2.2.2.2.2.2.2.2.2.2.2.2.2.2.1 ad))) (ad := ad) (L := L) (r := r) (W9 := W9) hr9 kk kx
  have hpre := m_pre (X := X) hX hY (ad := ad) (as := (.ref q :: as)) (W9 := W9)
  obtain ⟨p, l, e, R, s, m, args, below, meth, c, Q, A, dC, dI, dA, adR, RO, k⟩ := X
  have hX0 := hX
  have hY0 := hY
  obtain ⟨hx, hb, hml, hown, ⟨hwA, hwN⟩, hA, hK, hRO, hROA, hlk, hrt, hfr, hlo, hini⟩ := hX
  have hwd : ∀ (n : Nat) (w : Cond), wat n = some w → gw w = true → w.before args s = true := fun n w h g => mwd hwN h g
  intro H locs ls hP hD hS hn hw hL hs hl
  have hpre := hpre H locs hP hD hS hn hw
  have hr8 : (r.map fun v => v.category).sum ≤ 8 := Nat.le_of_ble_eq_true hr
  have hcells : cells + mc ≤ R.cells ∧ slots + ms ≤ R.slots := hcells
  have hR : d + 31 ≤ R.frames ∧ 8 + (mml k9 + 11) + (60 * d + 300) ≤ R.locals := hR
  have hcf : CallFix p m c (mby k) (mml k) s args wA (mnm k).cls := ⟨hx, hb, hml, hown, hwA⟩
  have hrecv := m_recv hK hRO hROA hP hS hci hg
  subst hC
  have hr9 : wv W9.length r := fun v hv => hs v (by simp [hv])
  refine hrun hr9 H locs ls #[] hP hD hS hn hw hL hl ?_
  have hcb := (show CallW R s args (mnm k).cls (mnm k9).cls index (mnm k9) (mby k9) (mml k9) (mret k9) (mws k9) (mrm d mc ms) mc ms as.length from ⟨callB_of as.length hwA (mws_good hcl) (mws_eq hnh) (rm := mrm d mc ms) rfl rfl (hwd _ _ hw3 hg3) (hwd _ _ hw2 hg2) ⟨(mcl_hd hcl).1, (mcl_hd hcl).2, hdesc⟩ ⟨by show d + 30 + 1 ≤ _; omega, hR.2⟩, hwd _ _ hw4 hg4, hwd _ _ hw5 hg5⟩)
  have hst : ((as.reverse ++ .ref q :: r)).map (cz (mz adR ad)) = (as.map (cz (mz adR ad))).reverse ++ .ref (mz adR ad q) :: r.map (cz (mz adR ad)) := by
    rw [List.map_append, List.map_reverse]; try rfl
  have hwas : wv W9.length (.ref q :: as) := fun v hv => hs v (by rcases List.mem_cons.mp hv with h | h <;> simp [h])
  exact vx_runV hcf (hM hwas dC dI dA adR ad H.size) hcb ⟨hpre.1, hrecv, hpre.2⟩ rfl (List.length_map _) hl.1 hst (by show 2 * 0 + _ ≤ 8; rw [cz_cats]; omega) hd hcells
theorem m_callS (hX : mCx X) (hY : mCy X) {index k9 d mc ms n1 n2 n3 n4 n5 n6 n7 : Nat} {host : String}  {as : List Value} {o : mO} {W' : List mE} (hM : mCon (mL X) (mRO X) k9 d as W9 o W' mc ms)
    (hw2 : wat n2 = some (.methodLink (mnm (mkk X)).cls index (mnm k9))) (hg2 : gw (.methodLink (mnm (mkk X)).cls index (mnm k9)) = true) (hw3 : wat n3 = some (.initialized (mnm k9).cls)) (hg3 : gw (.initialized (mnm k9).cls) = true) (hw4 : wat n4 = some (.static (mnm k9))) (hg4 : gw (.static (mnm k9)) = true)
    (hnh : mhh k9 = []) (hdesc : (parseMethodDescriptor (mnm k9).desc).map (fun d => d.parameters.length) = some as.length)  (hR : d + 31 ≤ (mRm X).frames ∧ 8 + (mml k9 + 11) + (60 * d + 300) ≤ (mRm X).locals) (hcells : cells + mc ≤ (mRm X).cells ∧ slots + ms ≤ (mRm X).slots) (hcl : mcl[k9]? = some (k9, n1)) (hr : mcs r = true) (hd : decode (mby (mkk X)) pc = .ok (.invokestatic index, 3))
    (kk : ∀ v, o = .inl v → W9.length ≤ W'.length → ∀ ad' : Nat → Nat, (∀ j, j < W9.length → ad' j = ad j) → mGo X (cells + mc) (slots + ms) ad' L (v.toList ++ r) W' (pc + 3))
    (kx : ∀ x, o = .inr x → W9.length ≤ W'.length → ∀ ad' : Nat → Nat, (∀ j, j < W9.length → ad' j = ad j) → mGoX X (cells + mc) (slots + ms) ad' L r W' pc x) : mGo X cells slots ad L (as.reverse ++ r) W9 pc := by
  have hrun := fun hr9 => m_run (X := X) hX (st0 := (as.reverse ++ r).map (cz (mz X.2.2.2.2.2.2.2.2.2.2.2.2.2.2.2.1 ad))) (ad := ad) (L := L) (r := r) (W9 := W9) hr9 kk kx
  have hpre := m_pre (X := X) hX hY (ad := ad) (as := as) (W9 := W9)
  obtain ⟨p, l, e, R, s, m, args, below, meth, c, Q, A, dC, dI, dA, adR, RO, k⟩ := X
  have hX0 := hX
  have hY0 := hY
  obtain ⟨hx, hb, hml, hown, ⟨hwA, hwN⟩, hA, hK, hRO, hROA, hlk, hrt, hfr, hlo, hini⟩ := hX
  have hwd : ∀ (n : Nat) (w : Cond), wat n = some w → gw w = true → w.before args s = true := fun n w h g => mwd hwN h g
  intro H locs ls hP hD hS hn hw hL hs hl
  have hpre := hpre H locs hP hD hS hn hw
  have hr8 : (r.map fun v => v.category).sum ≤ 8 := Nat.le_of_ble_eq_true hr
  have hcells : cells + mc ≤ R.cells ∧ slots + ms ≤ R.slots := hcells
  have hR : d + 31 ≤ R.frames ∧ 8 + (mml k9 + 11) + (60 * d + 300) ≤ R.locals := hR
  have hcf : CallFix p m c (mby k) (mml k) s args wA (mnm k).cls := ⟨hx, hb, hml, hown, hwA⟩
  have hr9 : wv W9.length r := fun v hv => hs v (by simp [hv])
  refine hrun hr9 H locs ls #[] hP hD hS hn hw hL hl ?_
  have hcb := And.intro (callB_of as.length hwA (mws_good hcl) (mws_eq hnh) (rm := mrm d mc ms) rfl rfl (hwd _ _ hw3 hg3) (hwd _ _ hw2 hg2) ⟨(mcl_hd hcl).1, (mcl_hd hcl).2, hdesc⟩ ⟨by show d + 30 + 1 ≤ _; omega, hR.2⟩) (hwd _ _ hw4 hg4)
  have hst : ((as.reverse ++ r)).map (cz (mz adR ad)) = (as.map (cz (mz adR ad))).reverse ++ r.map (cz (mz adR ad)) := by
    rw [List.map_append, List.map_reverse]; try rfl
  have hwas : wv W9.length as := fun v hv => hs v (by simp [hv])
  exact vx_runS hcf (hM hwas dC dI dA adR ad H.size) hcb hpre rfl (List.length_map _) hl.1 hst (by show 2 * 0 + _ ≤ 8; rw [cz_cats]; omega) hd hcells
theorem m_callI (hX : mCx X) (hY : mCy X) {index k9 d mc ms n1 n2 n3 n4 n5 n6 n7 : Nat} {host : String} {q : Nat} {as : List Value} {o : mO} {W' : List mE} (hM : mCon (mL X) (mRO X) k9 d (.ref q :: as) W9 o W' mc ms)
    (hw2 : wat n2 = some (.methodLink (mnm (mkk X)).cls index (mnm k9))) (hg2 : gw (.methodLink (mnm (mkk X)).cls index (mnm k9)) = true) (hw3 : wat n3 = some (.initialized (mnm k9).cls)) (hg3 : gw (.initialized (mnm k9).cls) = true) (hw4 : wat n4 = some (.instanceMethod (mnm k9))) (hg4 : gw (.instanceMethod (mnm k9)) = true)
    (hnh : mhh k9 = []) (hret : mret k9 = none) (hname : (mnm k9).name = "<init>") (hdesc : (parseMethodDescriptor (mnm k9).desc).map (fun d => d.parameters.length) = some as.length)  (hR : d + 31 ≤ (mRm X).frames ∧ 8 + (mml k9 + 11) + (60 * d + 300) ≤ (mRm X).locals) (hcells : cells + mc ≤ (mRm X).cells ∧ slots + ms ≤ (mRm X).slots) (hcl : mcl[k9]? = some (k9, n1)) (hr : mcs r = true) (hd : decode (mby (mkk X)) pc = .ok (.invokespecial index, 3))
    (kk : ∀ v, o = .inl v → W9.length ≤ W'.length → ∀ ad' : Nat → Nat, (∀ j, j < W9.length → ad' j = ad j) → mGo X (cells + mc) (slots + ms) ad' L (v.toList ++ r) W' (pc + 3))
    (kx : ∀ x, o = .inr x → W9.length ≤ W'.length → ∀ ad' : Nat → Nat, (∀ j, j < W9.length → ad' j = ad j) → mGoX X (cells + mc) (slots + ms) ad' L r W' pc x) : mGo X cells slots ad L (as.reverse ++ .ref q :: r) W9 pc := by
  have hrun := fun hr9 => m_run (X := X) hX (st0 := (as.reverse ++ .ref q :: r).map (cz (mz X.2.2.2.2.2.2.2.2.2.2.2.2.2.2.2.1 ad))) (ad := ad) (L := L) (r := r) (W9 := W9) hr9 kk kx
  have hpre := m_pre (X := X) hX hY (ad := ad) (as := (.ref q :: as)) (W9 := W9)
  obtain ⟨p, l, e, R, s, m, args, below, meth, c, Q, A, dC, dI, dA, adR, RO, k⟩ := X
  have hX0 := hX
  have hY0 := hY
  obtain ⟨hx, hb, hml, hown, ⟨hwA, hwN⟩, hA, hK, hRO, hROA, hlk, hrt, hfr, hlo, hini⟩ := hX
  have hwd : ∀ (n : Nat) (w : Cond), wat n = some w → gw w = true → w.before args s = true := fun n w h g => mwd hwN h g
  intro H locs ls hP hD hS hn hw hL hs hl
  have hpre := hpre H locs hP hD hS hn hw
  have hr8 : (r.map fun v => v.category).sum ≤ 8 := Nat.le_of_ble_eq_true hr
  have hcells : cells + mc ≤ R.cells ∧ slots + ms ≤ R.slots := hcells
  have hR : d + 31 ≤ R.frames ∧ 8 + (mml k9 + 11) + (60 * d + 300) ≤ R.locals := hR
  have hcf : CallFix p m c (mby k) (mml k) s args wA (mnm k).cls := ⟨hx, hb, hml, hown, hwA⟩
  have hr9 : wv W9.length r := fun v hv => hs v (by simp [hv])
  refine hrun hr9 H locs ls #[] hP hD hS hn hw hL hl ?_
  have hcb := (show CallB R s args (mnm k).cls index (mnm k9) (mby k9) (mml k9) none (mws k9) (mrm d mc ms) mc ms as.length ∧ (mnm k9).name = "<init>" ∧ (Cond.instanceMethod (mnm k9)).before args s = true from ⟨by rw [← hret]; exact callB_of as.length hwA (mws_good hcl) (mws_eq hnh) (rm := mrm d mc ms) rfl rfl (hwd _ _ hw3 hg3) (hwd _ _ hw2 hg2) ⟨(mcl_hd hcl).1, (mcl_hd hcl).2, hdesc⟩ ⟨by show d + 30 + 1 ≤ _; omega, hR.2⟩, hname, hwd _ _ hw4 hg4⟩)
  have hst : ((as.reverse ++ .ref q :: r)).map (cz (mz adR ad)) = (as.map (cz (mz adR ad))).reverse ++ .ref (mz adR ad q) :: r.map (cz (mz adR ad)) := by
    rw [List.map_append, List.map_reverse]; try rfl
  have hwas : wv W9.length (.ref q :: as) := fun v hv => hs v (by rcases List.mem_cons.mp hv with h | h <;> simp [h])
  exact vx_runI hcf (hM hwas dC dI dA adR ad H.size) hcb hpre rfl (List.length_map _) hl.1 hst (by show 2 * 0 + _ ≤ 8; rw [cz_cats]; omega) hd hcells
theorem m_callSN (hX : mCx X) (hY : mCy X) {index k9 d mc ms n1 n2 n3 n4 n5 n6 n7 : Nat} {host : String}  {as : List Value} {o : mO} {W' : List mE} (hM : mCon (mL X) (mRO X) k9 d as W9 o W' mc ms)
    (hw2 : wat n2 = some (.methodLinkNest (mnm (mkk X)).cls index (mnm k9) host)) (hg2 : gw (.methodLinkNest (mnm (mkk X)).cls index (mnm k9) host) = true) (hw3 : wat n3 = some (.initialized (mnm k9).cls)) (hg3 : gw (.initialized (mnm k9).cls) = true) (hw4 : wat n4 = some (.static (mnm k9))) (hg4 : gw (.static (mnm k9)) = true)
    (hnh : mhh k9 = []) (hnw : ∀ (args : Array Value) (s : State), (Cond.methodLinkNest (mnm (mkk X)).cls index (mnm k9) host).before args s = true → va_Nw (.methodLinkNest (mnm (mkk X)).cls index (mnm k9) host) s) (hdesc : (parseMethodDescriptor (mnm k9).desc).map (fun d => d.parameters.length) = some as.length)  (hR : d + 31 ≤ (mRm X).frames ∧ 8 + (mml k9 + 11) + (60 * d + 300) ≤ (mRm X).locals) (hcells : cells + mc ≤ (mRm X).cells ∧ slots + ms ≤ (mRm X).slots) (hcl : mcl[k9]? = some (k9, n1)) (hr : mcs r = true) (hd : decode (mby (mkk X)) pc = .ok (.invokestatic index, 3))
    (kk : ∀ v, o = .inl v → W9.length ≤ W'.length → ∀ ad' : Nat → Nat, (∀ j, j < W9.length → ad' j = ad j) → mGo X (cells + mc) (slots + ms) ad' L (v.toList ++ r) W' (pc + 3))
    (kx : ∀ x, o = .inr x → W9.length ≤ W'.length → ∀ ad' : Nat → Nat, (∀ j, j < W9.length → ad' j = ad j) → mGoX X (cells + mc) (slots + ms) ad' L r W' pc x) : mGo X cells slots ad L (as.reverse ++ r) W9 pc := by
  have hrun := fun hr9 => m_run (X := X) hX (st0 := (as.reverse ++ r).map (cz (mz X.2.2.2.2.2.2.2.2.2.2.2.2.2.2.2.1 ad))) (ad := ad) (L := L) (r := r) (W9 := W9) hr9 kk kx
  have hpre := m_pre (X := X) hX hY (ad := ad) (as := as) (W9 := W9)
  obtain ⟨p, l, e, R, s, m, args, below, meth, c, Q, A, dC, dI, dA, adR, RO, k⟩ := X
  have hX0 := hX
  have hY0 := hY
  obtain ⟨hx, hb, hml, hown, ⟨hwA, hwN⟩, hA, hK, hRO, hROA, hlk, hrt, hfr, hlo, hini⟩ := hX
  have hwd : ∀ (n : Nat) (w : Cond), wat n = some w → gw w = true → w.before args s = true := fun n w h g => mwd hwN h g
  intro H locs ls hP hD hS hn hw hL hs hl
  have hpre := hpre H locs hP hD hS hn hw
  have hr8 : (r.map fun v => v.category).sum ≤ 8 := Nat.le_of_ble_eq_true hr
  have hcells : cells + mc ≤ R.cells ∧ slots + ms ≤ R.slots := hcells
  have hR : d + 31 ≤ R.frames ∧ 8 + (mml k9 + 11) + (60 * d + 300) ≤ R.locals := hR
  have hcf : CallFix p m c (mby k) (mml k) s args wA (mnm k).cls := ⟨hx, hb, hml, hown, hwA⟩
  have hr9 : wv W9.length r := fun v hv => hs v (by simp [hv])
  refine hrun hr9 H locs ls #[] hP hD hS hn hw hL hl ?_
  have hnest := hnw args s (hwd _ _ hw2 hg2)
  have hcb := (show va_CN R s args (mnm k).cls index (mnm k9) host (mby k9) (mml k9) (mret k9) (mws k9) (mrm d mc ms) mc ms as.length ∧ (Cond.static (mnm k9)).before args s = true ∧ True from ⟨va_cnB as.length hwA (mws_good hcl) (mws_eq hnh) (rm := mrm d mc ms) rfl rfl hnest (hwd _ _ hw3 hg3) ⟨(mcl_hd hcl).1, (mcl_hd hcl).2, hdesc⟩ ⟨by show d + 30 + 1 ≤ _; omega, hR.2⟩, hwd _ _ hw4 hg4, trivial⟩)
  have hst : ((as.reverse ++ r)).map (cz (mz adR ad)) = (as.map (cz (mz adR ad))).reverse ++ r.map (cz (mz adR ad)) := by
    rw [List.map_append, List.map_reverse]; try rfl
  have hwas : wv W9.length as := fun v hv => hs v (by simp [hv])
  exact vx_runSN hcf (hM hwas dC dI dA adR ad H.size) hcb hpre rfl (List.length_map _) hl.1 hst (by show 2 * 0 + _ ≤ 8; rw [cz_cats]; omega) hd hcells
theorem m_callIN (hX : mCx X) (hY : mCy X) {index k9 d mc ms n1 n2 n3 n4 n5 n6 n7 : Nat} {host : String} {q : Nat} {as : List Value} {o : mO} {W' : List mE} (hM : mCon (mL X) (mRO X) k9 d (.ref q :: as) W9 o W' mc ms)
    (hw2 : wat n2 = some (.methodLinkNest (mnm (mkk X)).cls index (mnm k9) host)) (hg2 : gw (.methodLinkNest (mnm (mkk X)).cls index (mnm k9) host) = true) (hw3 : wat n3 = some (.initialized (mnm k9).cls)) (hg3 : gw (.initialized (mnm k9).cls) = true) (hw4 : wat n4 = some (.instanceMethod (mnm k9))) (hg4 : gw (.instanceMethod (mnm k9)) = true)
    (hnh : mhh k9 = []) (hret : mret k9 = none) (hname : (mnm k9).name = "<init>") (hnw : ∀ (args : Array Value) (s : State), (Cond.methodLinkNest (mnm (mkk X)).cls index (mnm k9) host).before args s = true → va_Nw (.methodLinkNest (mnm (mkk X)).cls index (mnm k9) host) s) (hdesc : (parseMethodDescriptor (mnm k9).desc).map (fun d => d.parameters.length) = some as.length)  (hR : d + 31 ≤ (mRm X).frames ∧ 8 + (mml k9 + 11) + (60 * d + 300) ≤ (mRm X).locals) (hcells : cells + mc ≤ (mRm X).cells ∧ slots + ms ≤ (mRm X).slots) (hcl : mcl[k9]? = some (k9, n1)) (hr : mcs r = true) (hd : decode (mby (mkk X)) pc = .ok (.invokespecial index, 3))
    (kk : ∀ v, o = .inl v → W9.length ≤ W'.length → ∀ ad' : Nat → Nat, (∀ j, j < W9.length → ad' j = ad j) → mGo X (cells + mc) (slots + ms) ad' L (v.toList ++ r) W' (pc + 3))
    (kx : ∀ x, o = .inr x → W9.length ≤ W'.length → ∀ ad' : Nat → Nat, (∀ j, j < W9.length → ad' j = ad j) → mGoX X (cells + mc) (slots + ms) ad' L r W' pc x) : mGo X cells slots ad L (as.reverse ++ .ref q :: r) W9 pc := by
  have hrun := fun hr9 => m_run (X := X) hX (st0 := (as.reverse ++ .ref q :: r).map (cz (mz X.2.2.2.2.2.2.2.2.2.2.2.2.2.2.2.1 ad))) (ad := ad) (L := L) (r := r) (W9 := W9) hr9 kk kx
  have hpre := m_pre (X := X) hX hY (ad := ad) (as := (.ref q :: as)) (W9 := W9)
  obtain ⟨p, l, e, R, s, m, args, below, meth, c, Q, A, dC, dI, dA, adR, RO, k⟩ := X
  have hX0 := hX
  have hY0 := hY
  obtain ⟨hx, hb, hml, hown, ⟨hwA, hwN⟩, hA, hK, hRO, hROA, hlk, hrt, hfr, hlo, hini⟩ := hX
  have hwd : ∀ (n : Nat) (w : Cond), wat n = some w → gw w = true → w.before args s = true := fun n w h g => mwd hwN h g
  intro H locs ls hP hD hS hn hw hL hs hl
  have hpre := hpre H locs hP hD hS hn hw
  have hr8 : (r.map fun v => v.category).sum ≤ 8 := Nat.le_of_ble_eq_true hr
  have hcells : cells + mc ≤ R.cells ∧ slots + ms ≤ R.slots := hcells
  have hR : d + 31 ≤ R.frames ∧ 8 + (mml k9 + 11) + (60 * d + 300) ≤ R.locals := hR
  have hcf : CallFix p m c (mby k) (mml k) s args wA (mnm k).cls := ⟨hx, hb, hml, hown, hwA⟩
  have hr9 : wv W9.length r := fun v hv => hs v (by simp [hv])
  refine hrun hr9 H locs ls #[] hP hD hS hn hw hL hl ?_
  have hnest := hnw args s (hwd _ _ hw2 hg2)
  have hcb := (show va_CN R s args (mnm k).cls index (mnm k9) host (mby k9) (mml k9) none (mws k9) (mrm d mc ms) mc ms as.length ∧ (mnm k9).name = "<init>" ∧ (Cond.instanceMethod (mnm k9)).before args s = true from ⟨by rw [← hret]; exact va_cnB as.length hwA (mws_good hcl) (mws_eq hnh) (rm := mrm d mc ms) rfl rfl hnest (hwd _ _ hw3 hg3) ⟨(mcl_hd hcl).1, (mcl_hd hcl).2, hdesc⟩ ⟨by show d + 30 + 1 ≤ _; omega, hR.2⟩, hname, hwd _ _ hw4 hg4⟩)
  have hst : ((as.reverse ++ .ref q :: r)).map (cz (mz adR ad)) = (as.map (cz (mz adR ad))).reverse ++ .ref (mz adR ad q) :: r.map (cz (mz adR ad)) := by
    rw [List.map_append, List.map_reverse]; try rfl
  have hwas : wv W9.length (.ref q :: as) := fun v hv => hs v (by rcases List.mem_cons.mp hv with h | h <;> simp [h])
  exact vx_runIN hcf (hM hwas dC dI dA adR ad H.size) hcb hpre rfl (List.length_map _) hl.1 hst (by show 2 * 0 + _ ≤ 8; rw [cz_cats]; omega) hd hcells
theorem m_callSX (hX : mCx X) (hY : mCy X) {index k9 d mc ms n1 n2 n3 n4 n5 n6 n7 : Nat} {host : String}  {as : List Value} {o : mO} {W' : List mE} (hM : mCon (mL X) (mRO X) k9 d as W9 o W' mc ms)
    (hw2 : wat n2 = some (.methodLink (mnm (mkk X)).cls index (mnm k9))) (hg2 : gw (.methodLink (mnm (mkk X)).cls index (mnm k9)) = true) (hw3 : wat n3 = some (.initialized (mnm k9).cls)) (hg3 : gw (.initialized (mnm k9).cls) = true) (hw4 : wat n4 = some (.static (mnm k9))) (hg4 : gw (.static (mnm k9)) = true)
    {ah : Nat × Nat × Nat × Nat} {bh : List (Nat × Nat × Nat × Nat)} (hnh : mhh k9 = ah :: bh) (hdesc : (parseMethodDescriptor (mnm k9).desc).map (fun d => d.parameters.length) = some as.length)  (hR : d + 31 ≤ (mRm X).frames ∧ 8 + (mml k9 + 11) + (60 * d + 300) ≤ (mRm X).locals) (hcells : cells + mc ≤ (mRm X).cells ∧ slots + ms ≤ (mRm X).slots) (hcl : mcl[k9]? = some (k9, n1)) (hr : mcs r = true) (hd : decode (mby (mkk X)) pc = .ok (.invokestatic index, 3))
    (kk : ∀ v, o = .inl v → W9.length ≤ W'.length → ∀ ad' : Nat → Nat, (∀ j, j < W9.length → ad' j = ad j) → mGo X (cells + mc) (slots + ms) ad' L (v.toList ++ r) W' (pc + 3))
    (kx : ∀ x, o = .inr x → W9.length ≤ W'.length → ∀ ad' : Nat → Nat, (∀ j, j < W9.length → ad' j = ad j) → mGoX X (cells + mc) (slots + ms) ad' L r W' pc x) : mGo X cells slots ad L (as.reverse ++ r) W9 pc := by
  have hrun := fun hr9 => m_run (X := X) hX (st0 := (as.reverse ++ r).map (cz (mz X.2.2.2.2.2.2.2.2.2.2.2.2.2.2.2.1 ad))) (ad := ad) (L := L) (r := r) (W9 := W9) hr9 kk kx
  have hpre := m_pre (X := X) hX hY (ad := ad) (as := as) (W9 := W9)
  obtain ⟨p, l, e, R, s, m, args, below, meth, c, Q, A, dC, dI, dA, adR, RO, k⟩ := X
  have hX0 := hX
  have hY0 := hY
  obtain ⟨hx, hb, hml, hown, ⟨hwA, hwN⟩, hA, hK, hRO, hROA, hlk, hrt, hfr, hlo, hini⟩ := hX
  have hwd : ∀ (n : Nat) (w : Cond), wat n = some w → gw w = true → w.before args s = true := fun n w h g => mwd hwN h g
  intro H locs ls hP hD hS hn hw hL hs hl
  have hpre := hpre H locs hP hD hS hn hw
  have hr8 : (r.map fun v => v.category).sum ≤ 8 := Nat.le_of_ble_eq_true hr
  have hcells : cells + mc ≤ R.cells ∧ slots + ms ≤ R.slots := hcells
  have hR : d + 31 ≤ R.frames ∧ 8 + (mml k9 + 11) + (60 * d + 300) ≤ R.locals := hR
  have hcf : CallFix p m c (mby k) (mml k) s args wA (mnm k).cls := ⟨hx, hb, hml, hown, hwA⟩
  have hr9 : wv W9.length r := fun v hv => hs v (by simp [hv])
  refine hrun hr9 H locs ls #[] hP hD hS hn hw hL hl ?_
  have hmw := mws_eqW hnh
  have hgi : GoodIn wA (va_wsS (mnm k).cls index (mnm k9) (mws k9)) := by
    intro w hw0
    rcases List.mem_append.mp hw0 with h | h
    · rcases List.mem_cons.mp h with h | h
      · rw [h]; exact ⟨wA_mem hw2 hg2, good_of_word hg2⟩
      · rcases List.mem_cons.mp h with h | h
        · rw [h]; exact ⟨wA_mem hw4 hg4, good_of_word hg4⟩
        · rw [List.mem_singleton.mp h]; exact ⟨wA_mem hw3 hg3, good_of_word hg3⟩
    · exact mws_good hcl w h
  have hcb := (show vx_CSW R s args (mnm k).cls index (mnm k9) (mby k9) (mml k9) (mret k9) (mhh k9) (mws k9) (mrm d mc ms) mc ms as.length from vx_cwSW as.length hwA hgi hmw (rm := mrm d mc ms) rfl rfl ⟨(mcl_hd hcl).1, (mcl_hd hcl).2, hdesc⟩ ⟨by show d + 30 + 1 ≤ _; omega, hR.2⟩)
  have hst : ((as.reverse ++ r)).map (cz (mz adR ad)) = (as.map (cz (mz adR ad))).reverse ++ r.map (cz (mz adR ad)) := by
    rw [List.map_append, List.map_reverse]; try rfl
  have hwas : wv W9.length as := fun v hv => hs v (by simp [hv])
  exact vx_runSX hcf (hM hwas dC dI dA adR ad H.size) hcb hpre rfl (List.length_map _) hl.1 hst (by show 2 * 0 + _ ≤ 8; rw [cz_cats]; omega) hd hcells
theorem m_callU (hX : mCx X) (hY : mCy X) {index k9 d mc ms n1 n2 n3 n4 n5 n6 n7 : Nat} {host : String} {ci q : Nat} {C : String} {T : u_T} {N : Nat} {fs : List Value} {as : List Value} {o : mO} {W' : List mE} (hM : mCon (mL X) (mRO X) k9 d (.ref q :: as) W9 o W' mc ms)
    (hw2 : wat n2 = some (.methodLink (mnm (mkk X)).cls index (mnm k9))) (hg2 : gw (.methodLink (mnm (mkk X)).cls index (mnm k9)) = true) (hw3 : wat n3 = some (.initialized (mnm k9).cls)) (hg3 : gw (.initialized (mnm k9).cls) = true) (hw4 : wat n4 = some (.instanceMethod (mnm k9))) (hg4 : gw (.instanceMethod (mnm k9)) = true) (hw5 : wat n5 = some (.selects C (mnm k9) (mnm k9))) (hg5 : gw (.selects C (mnm k9) (mnm k9)) = true) (hw6 : wat n6 = some (.sameMethod (mnm k9).cls (mnm k9).cls (mnm k9).name (mnm k9).desc)) (hg6 : gw (.sameMethod (mnm k9).cls (mnm k9).cls (mnm k9).name (mnm k9).desc) = true)
    (hnh : mhh k9 = []) (hdesc : (parseMethodDescriptor (mnm k9).desc).map (fun d => d.parameters.length) = some as.length) (hci : vwCl[ci]? = some (C, T, N)) (hg : mget (mRO X) W9 q = some (.inr (ci, fs))) (hR : d + 31 ≤ (mRm X).frames ∧ 8 + (mml k9 + 11) + (60 * d + 300) ≤ (mRm X).locals) (hcells : cells + mc ≤ (mRm X).cells ∧ slots + ms ≤ (mRm X).slots) (hcl : mcl[k9]? = some (k9, n1)) (hr : mcs r = true) (hd : decode (mby (mkk X)) pc = .ok (.invokevirtual index, 3))
    (kk : ∀ v, o = .inl v → W9.length ≤ W'.length → ∀ ad' : Nat → Nat, (∀ j, j < W9.length → ad' j = ad j) → mGo X (cells + mc) (slots + ms) ad' L (v.toList ++ r) W' (pc + 3))
    (kx : ∀ x, o = .inr x → W9.length ≤ W'.length → ∀ ad' : Nat → Nat, (∀ j, j < W9.length → ad' j = ad j) → mGoX X (cells + mc) (slots + ms) ad' L r W' pc x) : mGo X cells slots ad L (as.reverse ++ .ref q :: r) W9 pc := by
  have hrun := fun hr9 => m_run (X := X) hX (st0 := (as.reverse ++ .ref q :: r).map (cz (mz X.2.2.2.2.2.2.2.2.2.2.2.2.2.2.2.1 ad))) (ad := ad) (L := L) (r := r) (W9 := W9) hr9 kk kx
  have hpre := m_pre (X := X) hX hY (ad := ad) (as := (.ref q :: as)) (W9 := W9)
  obtain ⟨p, l, e, R, s, m, args, below, meth, c, Q, A, dC, dI, dA, adR, RO, k⟩ := X
  have hX0 := hX
  have hY0 := hY
  obtain ⟨hx, hb, hml, hown, ⟨hwA, hwN⟩, hA, hK, hRO, hROA, hlk, hrt, hfr, hlo, hini⟩ := hX
  have hwd : ∀ (n : Nat) (w : Cond), wat n = some w → gw w = true → w.before args s = true := fun n w h g => mwd hwN h g
  intro H locs ls hP hD hS hn hw hL hs hl
  have hpre := hpre H locs hP hD hS hn hw
  have hr8 : (r.map fun v => v.category).sum ≤ 8 := Nat.le_of_ble_eq_true hr
  have hcells : cells + mc ≤ R.cells ∧ slots + ms ≤ R.slots := hcells
  have hR : d + 31 ≤ R.frames ∧ 8 + (mml k9 + 11) + (60 * d + 300) ≤ R.locals := hR
  have hcf : CallFix p m c (mby k) (mml k) s args wA (mnm k).cls := ⟨hx, hb, hml, hown, hwA⟩
  have hrecv := m_recv hK hRO hROA hP hS hci hg
  have hr9 : wv W9.length r := fun v hv => hs v (by simp [hv])
  refine hrun hr9 H locs ls #[] hP hD hS hn hw hL hl ?_
  have hgiU : GoodIn wA (va_wsU (mnm k).cls index C (mnm k9).cls (mnm k9) (mnm k9) (mws k9)) := by
    intro w hw0
    rcases List.mem_append.mp hw0 with h | h
    · rcases List.mem_cons.mp h with h | h
      · rw [h]; exact ⟨wA_mem hw2 hg2, good_of_word hg2⟩
      · rcases List.mem_cons.mp h with h | h
        · rw [h]; exact ⟨wA_mem hw6 hg6, good_of_word hg6⟩
        · rcases List.mem_cons.mp h with h | h
          · rw [h]; exact ⟨wA_mem hw5 hg5, good_of_word hg5⟩
          · rcases List.mem_cons.mp h with h | h
            · rw [h]; exact ⟨wA_mem hw4 hg4, good_of_word hg4⟩
            · rw [List.mem_singleton.mp h]; exact ⟨wA_mem hw3 hg3, good_of_word hg3⟩
    · exact mws_good hcl w h
  have hcb := (show va_CU R s args (mnm k).cls C (mnm k9).cls index (mnm k9) (mnm k9) (mby k9) (mml k9) (mret k9) (mws k9) (mrm d mc ms) mc ms as.length from va_cwU as.length hwA hgiU (mws_eq hnh) (rm := mrm d mc ms) rfl rfl rfl ⟨(mcl_hd hcl).1, (mcl_hd hcl).2, hdesc⟩ ⟨by show d + 30 + 1 ≤ _; omega, hR.2⟩)
  have hst : ((as.reverse ++ .ref q :: r)).map (cz (mz adR ad)) = (as.map (cz (mz adR ad))).reverse ++ .ref (mz adR ad q) :: r.map (cz (mz adR ad)) := by
    rw [List.map_append, List.map_reverse]; try rfl
  have hwas : wv W9.length (.ref q :: as) := fun v hv => hs v (by rcases List.mem_cons.mp hv with h | h <;> simp [h])
  exact vx_runU hcf (hM hwas dC dI dA adR ad H.size) hcb ⟨hpre.1, hrecv, hpre.2⟩ rfl (List.length_map _) hl.1 hst (by show 2 * 0 + _ ≤ 8; rw [cz_cats]; omega) hd hcells
theorem m_callO (hX : mCx X) (hY : mCy X) {index k9 kO nO d mc ms n1 n2 n3 n4 n5 n6 n7 : Nat} {host : String} {ci q : Nat} {C : String} {T : u_T} {N : Nat} {fs : List Value} {as : List Value} {o : mO} {W' : List mE} (hM : mCon (mL X) (mRO X) k9 d (.ref q :: as) W9 o W' mc ms)
    (hw2 : wat n2 = some (.methodLink (mnm (mkk X)).cls index (mnm kO))) (hg2 : gw (.methodLink (mnm (mkk X)).cls index (mnm kO)) = true) (hw3 : wat n3 = some (.initialized (mnm k9).cls)) (hg3 : gw (.initialized (mnm k9).cls) = true) (hw4 : wat n4 = some (.instanceMethod (mnm k9))) (hg4 : gw (.instanceMethod (mnm k9)) = true) (hw5 : wat n5 = some (.selects C (mnm kO) (mnm k9))) (hg5 : gw (.selects C (mnm kO) (mnm k9)) = true) (hw6 : wat n6 = some (.sameMethod (mnm kO).cls (mnm kO).cls (mnm kO).name (mnm kO).desc)) (hg6 : gw (.sameMethod (mnm kO).cls (mnm kO).cls (mnm kO).name (mnm kO).desc) = true) (hw7 : wat n7 = some (.instanceMethod (mnm kO))) (hg7 : gw (.instanceMethod (mnm kO)) = true) (hnx : mhh kO = []) (hclx : mcl[kO]? = some (kO, nO)) (hdx : (mnm kO).desc = (mnm k9).desc)
    (hnh : mhh k9 = []) (hdesc : (parseMethodDescriptor (mnm k9).desc).map (fun d => d.parameters.length) = some as.length) (hci : vwCl[ci]? = some (C, T, N)) (hg : mget (mRO X) W9 q = some (.inr (ci, fs))) (hR : d + 31 ≤ (mRm X).frames ∧ 8 + (mml k9 + 11) + (60 * d + 300) ≤ (mRm X).locals) (hcells : cells + mc ≤ (mRm X).cells ∧ slots + ms ≤ (mRm X).slots) (hcl : mcl[k9]? = some (k9, n1)) (hr : mcs r = true) (hd : decode (mby (mkk X)) pc = .ok (.invokevirtual index, 3))
    (kk : ∀ v, o = .inl v → W9.length ≤ W'.length → ∀ ad' : Nat → Nat, (∀ j, j < W9.length → ad' j = ad j) → mGo X (cells + mc) (slots + ms) ad' L (v.toList ++ r) W' (pc + 3))
    (kx : ∀ x, o = .inr x → W9.length ≤ W'.length → ∀ ad' : Nat → Nat, (∀ j, j < W9.length → ad' j = ad j) → mGoX X (cells + mc) (slots + ms) ad' L r W' pc x) : mGo X cells slots ad L (as.reverse ++ .ref q :: r) W9 pc := by
  have hrun := fun hr9 => m_run (X := X) hX (st0 := (as.reverse ++ .ref q :: r).map (cz (mz X.2.2.2.2.2.2.2.2.2.2.2.2.2.2.2.1 ad))) (ad := ad) (L := L) (r := r) (W9 := W9) hr9 kk kx
  have hpre := m_pre (X := X) hX hY (ad := ad) (as := (.ref q :: as)) (W9 := W9)
  obtain ⟨p, l, e, R, s, m, args, below, meth, c, Q, A, dC, dI, dA, adR, RO, k⟩ := X
  have hX0 := hX
  have hY0 := hY
  obtain ⟨hx, hb, hml, hown, ⟨hwA, hwN⟩, hA, hK, hRO, hROA, hlk, hrt, hfr, hlo, hini⟩ := hX
  have hwd : ∀ (n : Nat) (w : Cond), wat n = some w → gw w = true → w.before args s = true := fun n w h g => mwd hwN h g
  intro H locs ls hP hD hS hn hw hL hs hl
  have hpre := hpre H locs hP hD hS hn hw
  have hr8 : (r.map fun v => v.category).sum ≤ 8 := Nat.le_of_ble_eq_true hr
  have hcells : cells + mc ≤ R.cells ∧ slots + ms ≤ R.slots := hcells
  have hR : d + 31 ≤ R.frames ∧ 8 + (mml k9 + 11) + (60 * d + 300) ≤ R.locals := hR
  have hcf : CallFix p m c (mby k) (mml k) s args wA (mnm k).cls := ⟨hx, hb, hml, hown, hwA⟩
  have hrecv := m_recv hK hRO hROA hP hS hci hg
  have hr9 : wv W9.length r := fun v hv => hs v (by simp [hv])
  refine hrun hr9 H locs ls #[] hP hD hS hn hw hL hl ?_
  have hgiU : GoodIn wA (va_wsO (mnm k).cls index C (mnm kO).cls (mnm kO) (mnm k9) (mws k9)) := by
    intro w hw0
    rcases List.mem_append.mp hw0 with h | h
    · rcases List.mem_cons.mp h with h | h
      · rw [h]; exact ⟨wA_mem hw2 hg2, good_of_word hg2⟩
      · rcases List.mem_cons.mp h with h | h
        · rw [h]; exact ⟨wA_mem hw6 hg6, good_of_word hg6⟩
        · rcases List.mem_cons.mp h with h | h
          · rw [h]; exact ⟨wA_mem hw7 hg7, good_of_word hg7⟩
          · rcases List.mem_cons.mp h with h | h
            · rw [h]; exact ⟨wA_mem hw5 hg5, good_of_word hg5⟩
            · rcases List.mem_cons.mp h with h | h
              · rw [h]; exact ⟨wA_mem hw4 hg4, good_of_word hg4⟩
              · rw [List.mem_singleton.mp h]; exact ⟨wA_mem hw3 hg3, good_of_word hg3⟩
    · exact mws_good hcl w h
  have hcb := (show va_CU R s args (mnm k).cls C (mnm kO).cls index (mnm kO) (mnm k9) (mby k9) (mml k9) (mret k9) (mws k9) (mrm d mc ms) mc ms as.length from va_cwO as.length hwA hgiU (mws_eq hnh) (rm := mrm d mc ms) rfl rfl (b0 := mby kO) (m0 := mml kO) (r0 := mret kO) (by have h9 := (mcl_ok _ (List.mem_of_getElem? hclx)).1; have h8 : mcw kO = .code (mnm kO) (mby kO) (mml kO) (mret kO) := (by unfold mcw; rw [hnx]); rw [show (wat nO = some (mcw kO) ∧ goodWord (mcw kO) = true) = (wat nO = some (.code (mnm kO) (mby kO) (mml kO) (mret kO)) ∧ goodWord (.code (mnm kO) (mby kO) (mml kO) (mret kO)) = true) from by rw [h8]] at h9; exact wA_mem h9.1 h9.2) ⟨(mcl_hd hclx).1, (mcl_hd hclx).2, by rw [hdx]; exact hdesc⟩ ⟨by show d + 30 + 1 ≤ _; omega, hR.2⟩)
  have hst : ((as.reverse ++ .ref q :: r)).map (cz (mz adR ad)) = (as.map (cz (mz adR ad))).reverse ++ .ref (mz adR ad q) :: r.map (cz (mz adR ad)) := by
    rw [List.map_append, List.map_reverse]; try rfl
  have hwas : wv W9.length (.ref q :: as) := fun v hv => hs v (by rcases List.mem_cons.mp hv with h | h <;> simp [h])
  exact vx_runU hcf (hM hwas dC dI dA adR ad H.size) hcb ⟨hpre.1, hrecv, hpre.2⟩ rfl (List.length_map _) hl.1 hst (by show 2 * 0 + _ ≤ 8; rw [cz_cats]; omega) hd hcells
theorem m_callSU (hX : mCx X) (hY : mCy X) {index k9 d mc ms n1 n2 n3 n4 n5 n6 n7 : Nat} {host : String} {ci q : Nat} {C : String} {T : u_T} {N : Nat} {fs : List Value} {as : List Value} {o : mO} {W' : List mE} (hM : mCon (mL X) (mRO X) k9 d (.ref q :: as) W9 o W' mc ms)
    (hw2 : wat n2 = some (.methodLink (mnm (mkk X)).cls index (mnm k9))) (hg2 : gw (.methodLink (mnm (mkk X)).cls index (mnm k9)) = true) (hw3 : wat n3 = some (.initialized (mnm k9).cls)) (hg3 : gw (.initialized (mnm k9).cls) = true) (hw4 : wat n4 = some (.instanceMethod (mnm k9))) (hg4 : gw (.instanceMethod (mnm k9)) = true) (hw5 : wat n5 = some (.superclass (mnm (mkk X)).cls (mnm k9).cls)) (hg5 : gw (.superclass (mnm (mkk X)).cls (mnm k9).cls) = true) (hw6 : wat n6 = some (.sameMethod (mnm k9).cls (mnm k9).cls (mnm k9).name (mnm k9).desc)) (hg6 : gw (.sameMethod (mnm k9).cls (mnm k9).cls (mnm k9).name (mnm k9).desc) = true)
    (hnh : mhh k9 = []) (hname : (mnm k9).name ≠ "<init>") (hdesc : (parseMethodDescriptor (mnm k9).desc).map (fun d => d.parameters.length) = some as.length) (hci : vwCl[ci]? = some (C, T, N)) (hg : mget (mRO X) W9 q = some (.inr (ci, fs))) (hR : d + 31 ≤ (mRm X).frames ∧ 8 + (mml k9 + 11) + (60 * d + 300) ≤ (mRm X).locals) (hcells : cells + mc ≤ (mRm X).cells ∧ slots + ms ≤ (mRm X).slots) (hcl : mcl[k9]? = some (k9, n1)) (hr : mcs r = true) (hd : decode (mby (mkk X)) pc = .ok (.invokespecial index, 3))
    (kk : ∀ v, o = .inl v → W9.length ≤ W'.length → ∀ ad' : Nat → Nat, (∀ j, j < W9.length → ad' j = ad j) → mGo X (cells + mc) (slots + ms) ad' L (v.toList ++ r) W' (pc + 3))
    (kx : ∀ x, o = .inr x → W9.length ≤ W'.length → ∀ ad' : Nat → Nat, (∀ j, j < W9.length → ad' j = ad j) → mGoX X (cells + mc) (slots + ms) ad' L r W' pc x) : mGo X cells slots ad L (as.reverse ++ .ref q :: r) W9 pc := by
  have hrun := fun hr9 => m_run (X := X) hX (st0 := (as.reverse ++ .ref q :: r).map (cz (mz X.2.2.2.2.2.2.2.2.2.2.2.2.2.2.2.1 ad))) (ad := ad) (L := L) (r := r) (W9 := W9) hr9 kk kx
  have hpre := m_pre (X := X) hX hY (ad := ad) (as := (.ref q :: as)) (W9 := W9)
  obtain ⟨p, l, e, R, s, m, args, below, meth, c, Q, A, dC, dI, dA, adR, RO, k⟩ := X
  have hX0 := hX
  have hY0 := hY
  obtain ⟨hx, hb, hml, hown, ⟨hwA, hwN⟩, hA, hK, hRO, hROA, hlk, hrt, hfr, hlo, hini⟩ := hX
  have hwd : ∀ (n : Nat) (w : Cond), wat n = some w → gw w = true → w.before args s = true := fun n w h g => mwd hwN h g
  intro H locs ls hP hD hS hn hw hL hs hl
  have hpre := hpre H locs hP hD hS hn hw
  have hr8 : (r.map fun v => v.category).sum ≤ 8 := Nat.le_of_ble_eq_true hr
  have hcells : cells + mc ≤ R.cells ∧ slots + ms ≤ R.slots := hcells
  have hR : d + 31 ≤ R.frames ∧ 8 + (mml k9 + 11) + (60 * d + 300) ≤ R.locals := hR
  have hcf : CallFix p m c (mby k) (mml k) s args wA (mnm k).cls := ⟨hx, hb, hml, hown, hwA⟩
  have hrecv := m_recv hK hRO hROA hP hS hci hg
  have hr9 : wv W9.length r := fun v hv => hs v (by simp [hv])
  refine hrun hr9 H locs ls #[] hP hD hS hn hw hL hl ?_
  have hgiS : GoodIn wA (va_wsSU (mnm k).cls index (mnm k9) (mws k9)) := by
    intro w hw0
    rcases List.mem_append.mp hw0 with h | h
    · rcases List.mem_cons.mp h with h | h
      · rw [h]; exact ⟨wA_mem hw2 hg2, good_of_word hg2⟩
      · rcases List.mem_cons.mp h with h | h
        · rw [h]; exact ⟨wA_mem hw6 hg6, good_of_word hg6⟩
        · rcases List.mem_cons.mp h with h | h
          · rw [h]; exact ⟨wA_mem hw5 hg5, good_of_word hg5⟩
          · rcases List.mem_cons.mp h with h | h
            · rw [h]; exact ⟨wA_mem hw4 hg4, good_of_word hg4⟩
            · rw [List.mem_singleton.mp h]; exact ⟨wA_mem hw3 hg3, good_of_word hg3⟩
    · exact mws_good hcl w h
  have hcb := (show va_CS R s args (mnm k).cls index (mnm k9) (mby k9) (mml k9) (mret k9) (mws k9) (mrm d mc ms) mc ms as.length from va_cwSU as.length hwA hgiS (mws_eq hnh) (rm := mrm d mc ms) rfl rfl ⟨hname, hdesc⟩ ⟨by show d + 30 + 1 ≤ _; omega, hR.2⟩)
  have hst : ((as.reverse ++ .ref q :: r)).map (cz (mz adR ad)) = (as.map (cz (mz adR ad))).reverse ++ .ref (mz adR ad q) :: r.map (cz (mz adR ad)) := by
    rw [List.map_append, List.map_reverse]; try rfl
  have hwas : wv W9.length (.ref q :: as) := fun v hv => hs v (by rcases List.mem_cons.mp hv with h | h <;> simp [h])
  exact vx_runSU (hK.1 ci _ hci).2 hcf (hM hwas dC dI dA adR ad H.size) hcb ⟨hpre.1, hrecv, hpre.2⟩ rfl (List.length_map _) hl.1 hst (by show 2 * 0 + _ ≤ 8; rw [cz_cats]; omega) hd hcells
theorem o_clone (hX : mCx X) (hY : mCy X) {index index2 n1 n2 n3 n4 n5 n6 n q : Nat} {f : Nat → Int32}
    (hw1 : wat n1 = some (.methodLink (mnm (mkk X)).cls index ⟨"[B", "clone", "()Ljava/lang/Object;"⟩)) (hg1 : gw (.methodLink (mnm (mkk X)).cls index ⟨"[B", "clone", "()Ljava/lang/Object;"⟩) = true) (hw2 : wat n2 = some (.sameMethod "[B" "java/lang/Object" "clone" "()Ljava/lang/Object;")) (hg2 : gw (.sameMethod "[B" "java/lang/Object" "clone" "()Ljava/lang/Object;") = true)
    (hw3 : wat n3 = some (.native ⟨"java/lang/Object", "clone", "()Ljava/lang/Object;"⟩)) (hg3 : gw (.native ⟨"java/lang/Object", "clone", "()Ljava/lang/Object;"⟩) = true) (hw4 : wat n4 = some (.instanceMethod ⟨"java/lang/Object", "clone", "()Ljava/lang/Object;"⟩)) (hg4 : gw (.instanceMethod ⟨"java/lang/Object", "clone", "()Ljava/lang/Object;"⟩) = true)
    (hw5 : wat n5 = some (.selects "[B" ⟨"[B", "clone", "()Ljava/lang/Object;"⟩ ⟨"java/lang/Object", "clone", "()Ljava/lang/Object;"⟩)) (hg5 : gw (.selects "[B" ⟨"[B", "clone", "()Ljava/lang/Object;"⟩ ⟨"java/lang/Object", "clone", "()Ljava/lang/Object;"⟩) = true) (hw6 : wat n6 = some (.classLink (mnm (mkk X)).cls index2 "[B")) (hg6 : gw (.classLink (mnm (mkk X)).cls index2 "[B") = true)
    (hq : Nat.blt q 1000000 = true) (hg : W9[q]? = some (.inl (0, n, .inl f))) (hfit : ∀ i, i < n → fits .byte (.int (f i)) = true) (hr : mcs r = true) (hcells : cells + 1 ≤ (mRm X).cells) (hslots : slots + n ≤ (mRm X).slots) (hlen : W9.length < 1000000)
    (hd : decode (mby (mkk X)) pc = .ok (.invokevirtual index, 3)) (hd2 : decode (mby (mkk X)) (pc + 3) = .ok (.checkcast index2, 3))
    (kk : ∀ ad' : Nat → Nat, (∀ j, j < W9.length → ad' j = ad j) → mGo X (cells + 1) (slots + n) ad' L (.ref W9.length :: r) (W9 ++ [.inl (0, n, .inl f)]) (pc + 6)) : mGo X cells slots ad L (.ref q :: r) W9 pc := by
  have hb9 := m_born (X := X) hlen (show wE 0 (.inl (0, n, .inl f)) from trivial) kk
  obtain ⟨p, l, e, R, s, m, args, below, meth, c, Q, A, dC, dI, dA, adR, RO, k⟩ := X
  obtain ⟨hx, hb, hml, hown, ⟨hwA, hwN⟩, hA, hK, hRO, hROA, hlk, hrt, hfr, hlo, hini⟩ := hX
  obtain ⟨hE9, hst9, htab⟩ := hY
  have hwd : ∀ (n : Nat) (w : Cond), wat n = some w → gw w = true → w.before args s = true := fun n w h g => mwd hwN h g
  intro H locs ls hP hD hS hn hw hL hs hl
  have hr9 := Nat.le_of_ble_eq_true hr
  have hfr : 30 ≤ R.frames := hfr
  have hlo : 300 ≤ R.locals := hlo
  have ha : (cw dA (mz adR ad) ad W9)[q]? = some (ad q, .inl (dA 0, n, .inl f)) := by rw [cw_at, hg]; rfl
  have hnm := (hK.2 0 (dA 0, .byte) rfl).2
  show W p l e R s m args below meth c H locs cells slots Q (F0 m pc ls (.ref (mz adR ad q) :: r.map (cz (mz adR ad))))
  rw [mz_lt hq]
  refine va_clone (D := (dC, dI)) (cl := vwCl) (tys := tyL dA) hx hb (hml.trans hl.1.symm) hown (hwd _ _ hw1 hg1) (hwd _ _ hw2 hg2) (hwd _ _ hw3 hg3) (hwd _ _ hw4 hg4) (hwd _ _ hw5 hg5) hE9.2.2.2.2.2.2.2.2.2 hK hP hD hS hA q 0 (cA := dA 0) (x := (n, .inl f)) (ty := .byte) ha rfl hnm ?_ (by omega) (by rw [cz_cats]; omega) hcells hslots hd (fun q1 H1 hK1 hP1 hD1 hS1 => ?_)
  · intro i v hv
    have hsz : (vp_cell (dA 0) (n, .inl f)).slots.size = n := arrV_size _ _ _
    have hin : i < n := by
      have := (Array.getElem?_eq_some_iff.mp hv).1
      rw [hsz] at this
      exact this
    have hv2 : (vp_cell (dA 0) (n, .inl f)).slots[i]? = some (.int (f i)) := arrV_read _ _ hin
    rw [hv2] at hv
    cases hv
    exact hfit i hin
  · refine va_castA (D := (dC, dI)) (cl := vwCl) hx hb hown (hwd _ _ hw6 hg6) hP1 (cw dA (mz adR ad) ad W9).length (cA := dA 0) (x := (n, .inl f)) (by simp) hnm hd2 ?_
    exact hb9 H1 locs ls q1 (fun z => rfl) hP1 hD1 hS1 hw hL (wv_tail hs) hl
end MODES
