def mRm (X : mX) : Room := X.2.2.2.1
theorem lz_eq {n : Nat} (hn : n ≤ 1000000) {adR ad ad' : Nat → Nat} (h : ∀ j, j < n → ad' j = ad j) {ls : Array Slot} {nL : Nat} {L : List Value} (hL : wv n L) (hl : lz (mz adR ad) ls nL L) : lz (mz adR ad') ls nL L :=
  ⟨hl.1, hl.2.1, fun i v hv hr => by rw [cz_eq hn h (wv_get hL hv)]; exact hl.2.2 i v hv hr⟩
theorem mz_self {adR ad : Nat → Nat} {n q : Nat} (hn : n < 1000000) : mz adR (fun j => if j = n then q else ad j) n = q := by
  have : Nat.blt n 1000000 = true := Nat.ble_eq_true_of_le hn
  rw [mz, this]; simp
def mcs (r : List Value) : Bool := Nat.ble ((r.map fun v => v.category).sum) 8
section ALLOC
variable {X : mX} {cells slots : Nat} {ad : Nat → Nat} {L r : List Value} {W9 : List mE} {pc : Nat}
/-- a new cell at the world's end -/
theorem m_born {X : mX} {cells slots : Nat} {ad : Nat → Nat} {L r : List Value} {W9 : List mE} {pc : Nat} {e0 : mE} (hlen : W9.length < 1000000) (hwe : wE 0 e0) (kk : ∀ ad' : Nat → Nat, (∀ j, j < W9.length → ad' j = ad j) → mGo X cells slots ad' L (.ref W9.length :: r) (W9 ++ [e0]) pc) :
    match X with
    | (p, l, e, R, s, m, args, below, meth, c, Q, A, dC, dI, dA, adR, RO, k) => ∀ (H : Heap) (locs : List Loc) (ls : Array Slot) (q : Nat), (∀ z, czE dA z e0 = czE dA (mz adR ad) e0) → va_P (dC, dI) vwCl (cw dA (mz adR ad) ad W9 ++ [(q, czE dA (mz adR ad) e0)]) H → va_D A (cw dA (mz adR ad) ad W9 ++ [(q, czE dA (mz adR ad) e0)]) → va_S A s.heap H locs → wW W9.length W9 → wv W9.length L → wv W9.length r → lz (mz adR ad) ls (mml k) L →
      W p l e R s m args below meth c H locs cells slots Q (F0 m pc ls (.ref q :: r.map (cz (mz adR ad)))) := by
  obtain ⟨p, l, e, R, s, m, args, below, meth, c, Q, A, dC, dI, dA, adR, RO, k⟩ := X
  intro H locs ls q hez hP hD hS hw hL hr hl
  have hag : ∀ j, j < W9.length → (fun j => if j = W9.length then q else ad j) j = ad j := fun j hj => if_neg (by omega)
  have k1 := kk (fun j => if j = W9.length then q else ad j) hag H locs ls
  have e1 : cw dA (mz adR (fun j => if j = W9.length then q else ad j)) (fun j => if j = W9.length then q else ad j) (W9 ++ [e0]) = cw dA (mz adR ad) ad W9 ++ [(q, czE dA (mz adR ad) e0)] := by
    rw [cw_push, cw_eq (Nat.le_of_lt hlen) hag hw, hez, if_pos rfl]
  rw [e1] at k1
  have hl2 : (W9 ++ [e0]).length = W9.length + 1 := by simp
  have k2 := k1 hP hD hS (by rw [hl2]; omega) (by
    rw [hl2]
    intro x hx
    rcases List.mem_append.mp hx with h | h
    · exact wE_mono (Nat.le_succ _) (hw x h)
    · rw [List.mem_singleton.mp h]; exact wE_mono (Nat.zero_le _) hwe) (by rw [hl2]; exact wv_mono (Nat.le_succ _) hL) (by
    rw [hl2]
    exact wv_cons (fun r9 h9 => by cases h9; exact Or.inl (Nat.lt_succ_self _)) (wv_mono (Nat.le_succ _) hr)) (lz_eq (Nat.le_of_lt hlen) hag hL hl)
  have e2 : (Value.ref W9.length :: r).map (cz (mz adR (fun j => if j = W9.length then q else ad j))) = .ref q :: r.map (cz (mz adR ad)) := by
    rw [List.map_cons, czs_eq (Nat.le_of_lt hlen) hag hr]
    show Value.ref (mz adR (fun j => if j = W9.length then q else ad j) W9.length) :: _ = _
    rw [mz_self hlen]
  rw [e2] at k2
  exact k2
theorem o_new (hX : mCx X) {C : String} {T : u_T} {N ci index n1 n2 n3 : Nat} {fs : List Value} (hc : vwCl[ci]? = some (C, T, N)) (hu : uok ci = true) (hw1 : wat n1 = some (.classLink (mnm (mkk X)).cls index C)) (hg1 : gw (.classLink (mnm (mkk X)).cls index C) = true) (hw2 : wat n2 = some (.instantiable C N)) (hg2 : gw (.instantiable C N) = true) (hw3 : wat n3 = some (.initialized C)) (hg3 : gw (.initialized C) = true)
    (hfs : ∀ j, j < N → defaultValue (tyf ci j) = vp_V fs j) (hnz : ∀ z, fs.map (cz z) = fs) (hfw : wv 0 fs) (hcells : cells + 1 ≤ (mRm X).cells) (hslots : slots + N ≤ (mRm X).slots) (hlen : W9.length < 1000000) (hd : decode (mby (mkk X)) pc = .ok (.new index, 3))
    (kk : ∀ ad' : Nat → Nat, (∀ j, j < W9.length → ad' j = ad j) → mGo X (cells + 1) (slots + N) ad' L (.ref W9.length :: r) (W9 ++ [.inr (ci, fs)]) (pc + 3)) : mGo X cells slots ad L r W9 pc := by
  have hb9 := m_born (X := X) hlen (show wE 0 (.inr (ci, fs)) from hfw) kk
  obtain ⟨p, l, e, R, s, m, args, below, meth, c, Q, A, dC, dI, dA, adR, RO, k⟩ := X
  obtain ⟨hx, hb, hml, hown, ⟨hwA, hwN⟩, hA, hK, hRO, hROA, hlk, hrt, hfr, hlo, hini⟩ := hX
  have hwd : ∀ (n : Nat) (w : Cond), wat n = some w → gw w = true → w.before args s = true := fun n w h g => mwd hwN h g
  intro H locs ls hP hD hS hn hw hL hs hl
  refine va_new (D := (dC, dI)) (cl := vwCl) (tys := tyL dA) hx hb (Ts := u_ws C T N) (uok_at hu hc hwd) (fun _ h => h) (tyf ci) (tyf_ok ci C T N hc).1 hown (hwd _ _ hw1 hg1) (hwd _ _ hw2 hg2) (hwd _ _ hw3 hg3) hK hP hD hS hA hc hfs hcells hslots hd (fun q H1 hP1 hD1 hS1 => ?_)
  have ez : ∀ z, czE dA z (.inr (ci, fs)) = .inr (ci, fs) := fun z => by show Sum.inr (ci, fs.map (cz z)) = _; rw [hnz]
  exact hb9 H1 locs ls q (fun z => (ez z).trans (ez _).symm) (by rw [ez]; exact hP1) (by rw [ez]; exact hD1) hS1 hw hL hs hl
theorem o_newI (hX : mCx X) {n1 : Nat} {n : Int32} (hw1 : wat n1 = some (.arrayClass .int)) (hn0 : ¬ n < 0) (hby : n.toNatClampNeg * 8 ≤ 536870912) (hcells : cells + 1 ≤ (mRm X).cells) (hslots : slots + n.toNatClampNeg ≤ (mRm X).slots) (hlen : W9.length < 1000000) (hd : decode (mby (mkk X)) pc = .ok (.newarray .int, 2))
    (kk : ∀ ad' : Nat → Nat, (∀ j, j < W9.length → ad' j = ad j) → mGo X (cells + 1) (slots + n.toNatClampNeg) ad' L (.ref W9.length :: r) (W9 ++ [.inl (1, n.toNatClampNeg, .inl (fun _ => 0))]) (pc + 2)) : mGo X cells slots ad L (.int n :: r) W9 pc := by
  have hb9 := m_born (X := X) hlen (show wE 0 (.inl (1, n.toNatClampNeg, .inl (fun _ => 0))) from trivial) kk
  obtain ⟨p, l, e, R, s, m, args, below, meth, c, Q, A, dC, dI, dA, adR, RO, k⟩ := X
  obtain ⟨hx, hb, hml, hown, ⟨hwA, hwN⟩, hA, hK, hRO, hROA, hlk, hrt, hfr, hlo, hini⟩ := hX
  have hwd : ∀ (n : Nat) (w : Cond), wat n = some w → gw w = true → w.before args s = true := fun n w h g => mwd hwN h g
  intro H locs ls hP hD hS hn hw hL hs hl
  have hby9 : n.toNatClampNeg * componentBytes .int ≤ 536870912 := Nat.le_trans (Nat.mul_le_mul_left _ (by decide)) hby
  refine va_newa (D := (dC, dI)) (cl := vwCl) (tys := tyL dA) hx hb (hwd _ _ hw1 rfl) (ty := .int) rfl hK hP hD hS hA (a0 := (n.toNatClampNeg, .inl (fun _ => 0))) (fun _ => rfl) hn0 rfl hby9 hcells hslots hd (fun q cA H1 hK1 hP1 hD1 hS1 => ?_)
  have hcA : cA = dA 1 := by
    have h1 := (hK1.2 4 (cA, .int) rfl).2
    have h2 := (hK.2 1 (dA 1, .int) rfl).2
    exact Option.some.inj (h1.symm.trans h2)
  subst hcA
  exact hb9 H1 locs ls q (fun z => rfl) hP1 hD1 hS1 hw hL (wv_tail hs) hl
theorem o_newB (hX : mCx X) {n1 : Nat} {n : Int32} (hw1 : wat n1 = some (.arrayClass .byte)) (hn0 : ¬ n < 0) (hby : n.toNatClampNeg * 8 ≤ 536870912) (hcells : cells + 1 ≤ (mRm X).cells) (hslots : slots + n.toNatClampNeg ≤ (mRm X).slots) (hlen : W9.length < 1000000) (hd : decode (mby (mkk X)) pc = .ok (.newarray .byte, 2))
    (kk : ∀ ad' : Nat → Nat, (∀ j, j < W9.length → ad' j = ad j) → mGo X (cells + 1) (slots + n.toNatClampNeg) ad' L (.ref W9.length :: r) (W9 ++ [.inl (0, n.toNatClampNeg, .inl (fun _ => 0))]) (pc + 2)) : mGo X cells slots ad L (.int n :: r) W9 pc := by
  have hb9 := m_born (X := X) hlen (show wE 0 (.inl (0, n.toNatClampNeg, .inl (fun _ => 0))) from trivial) kk
  obtain ⟨p, l, e, R, s, m, args, below, meth, c, Q, A, dC, dI, dA, adR, RO, k⟩ := X
  obtain ⟨hx, hb, hml, hown, ⟨hwA, hwN⟩, hA, hK, hRO, hROA, hlk, hrt, hfr, hlo, hini⟩ := hX
  have hwd : ∀ (n : Nat) (w : Cond), wat n = some w → gw w = true → w.before args s = true := fun n w h g => mwd hwN h g
  intro H locs ls hP hD hS hn hw hL hs hl
  have hby9 : n.toNatClampNeg * componentBytes .byte ≤ 536870912 := Nat.le_trans (Nat.mul_le_mul_left _ (by decide)) hby
  refine va_newa (D := (dC, dI)) (cl := vwCl) (tys := tyL dA) hx hb (hwd _ _ hw1 rfl) (ty := .byte) rfl hK hP hD hS hA (a0 := (n.toNatClampNeg, .inl (fun _ => 0))) (fun _ => rfl) hn0 rfl hby9 hcells hslots hd (fun q cA H1 hK1 hP1 hD1 hS1 => ?_)
  have hcA : cA = dA 0 := by
    have h1 := (hK1.2 4 (cA, .byte) rfl).2
    have h2 := (hK.2 0 (dA 0, .byte) rfl).2
    exact Option.some.inj (h1.symm.trans h2)
  subst hcA
  exact hb9 H1 locs ls q (fun z => rfl) hP1 hD1 hS1 hw hL (wv_tail hs) hl
theorem o_newZ (hX : mCx X) {n1 : Nat} {n : Int32} (hw1 : wat n1 = some (.arrayClass .boolean)) (hn0 : ¬ n < 0) (hby : n.toNatClampNeg * 8 ≤ 536870912) (hcells : cells + 1 ≤ (mRm X).cells) (hslots : slots + n.toNatClampNeg ≤ (mRm X).slots) (hlen : W9.length < 1000000) (hd : decode (mby (mkk X)) pc = .ok (.newarray .boolean, 2))
    (kk : ∀ ad' : Nat → Nat, (∀ j, j < W9.length → ad' j = ad j) → mGo X (cells + 1) (slots + n.toNatClampNeg) ad' L (.ref W9.length :: r) (W9 ++ [.inl (2, n.toNatClampNeg, .inl (fun _ => 0))]) (pc + 2)) : mGo X cells slots ad L (.int n :: r) W9 pc := by
  have hb9 := m_born (X := X) hlen (show wE 0 (.inl (2, n.toNatClampNeg, .inl (fun _ => 0))) from trivial) kk
  obtain ⟨p, l, e, R, s, m, args, below, meth, c, Q, A, dC, dI, dA, adR, RO, k⟩ := X
  obtain ⟨hx, hb, hml, hown, ⟨hwA, hwN⟩, hA, hK, hRO, hROA, hlk, hrt, hfr, hlo, hini⟩ := hX
  have hwd : ∀ (n : Nat) (w : Cond), wat n = some w → gw w = true → w.before args s = true := fun n w h g => mwd hwN h g
  intro H locs ls hP hD hS hn hw hL hs hl
  have hby9 : n.toNatClampNeg * componentBytes .boolean ≤ 536870912 := Nat.le_trans (Nat.mul_le_mul_left _ (by decide)) hby
  refine va_newa (D := (dC, dI)) (cl := vwCl) (tys := tyL dA) hx hb (hwd _ _ hw1 rfl) (ty := .boolean) rfl hK hP hD hS hA (a0 := (n.toNatClampNeg, .inl (fun _ => 0))) (fun _ => rfl) hn0 rfl hby9 hcells hslots hd (fun q cA H1 hK1 hP1 hD1 hS1 => ?_)
  have hcA : cA = dA 2 := by
    have h1 := (hK1.2 4 (cA, .boolean) rfl).2
    have h2 := (hK.2 2 (dA 2, .boolean) rfl).2
    exact Option.some.inj (h1.symm.trans h2)
  subst hcA
  exact hb9 H1 locs ls q (fun z => rfl) hP1 hD1 hS1 hw hL (wv_tail hs) hl
theorem o_anew (hX : mCx X) {index n1 n2 : Nat} {n : Int32} (hw1 : wat n1 = some (.classLink (mnm (mkk X)).cls index "MuleTrain$Train")) (hg1 : gw (.classLink (mnm (mkk X)).cls index "MuleTrain$Train") = true) (hw2 : wat n2 = some (.arrayOver (.object "MuleTrain$Train"))) (hao : ∀ (args : Array Value) (s : State), (Cond.arrayOver (.object "MuleTrain$Train")).before args s = true → va_AO "MuleTrain$Train" s) (hg2 : gw (.arrayOver (.object "MuleTrain$Train")) = true) (hn0 : ¬ n < 0) (hby : n.toNatClampNeg * 4 ≤ 536870912) (hcells : cells + 1 ≤ (mRm X).cells) (hslots : slots + n.toNatClampNeg ≤ (mRm X).slots) (hlen : W9.length < 1000000) (hd : decode (mby (mkk X)) pc = .ok (.anewarray index, 3))
    (kk : ∀ ad' : Nat → Nat, (∀ j, j < W9.length → ad' j = ad j) → mGo X (cells + 1) (slots + n.toNatClampNeg) ad' L (.ref W9.length :: r) (W9 ++ [.inl (3, n.toNatClampNeg, .inr (.inr (.inr (.inr (fun _ => none)))))]) (pc + 3)) : mGo X cells slots ad L (.int n :: r) W9 pc := by
  have hb9 := m_born (X := X) hlen (show wE 0 (.inl (3, n.toNatClampNeg, .inr (.inr (.inr (.inr (fun _ => none)))))) from fun i r h => by cases h) kk
  obtain ⟨p, l, e, R, s, m, args, below, meth, c, Q, A, dC, dI, dA, adR, RO, k⟩ := X
  obtain ⟨hx, hb, hml, hown, ⟨hwA, hwN⟩, hA, hK, hRO, hROA, hlk, hrt, hfr, hlo, hini⟩ := hX
  have hwd : ∀ (n : Nat) (w : Cond), wat n = some w → gw w = true → w.before args s = true := fun n w h g => mwd hwN h g
  intro H locs ls hP hD hS hn hw hL hs hl
  refine va_newq (D := (dC, dI)) (cl := vwCl) (tys := tyL dA) hx hb hown (hwd _ _ hw1 hg1) (hao _ _ (hwd _ _ hw2 hg2)) hK hP hD hS hA hn0 rfl hby hcells hslots hd (fun q cA H1 hK1 hP1 hD1 hS1 => ?_)
  have hcA : cA = dA 3 := by
    obtain ⟨_, _, _, _, _, h1⟩ := (hK1.2 4 (cA, .object "MuleTrain$Train") rfl).2
    obtain ⟨_, _, _, _, _, h2⟩ := (hK.2 3 (dA 3, .object "MuleTrain$Train") rfl).2
    exact Option.some.inj (h1.symm.trans h2)
  subst hcA
  exact hb9 H1 locs ls q (fun z => rfl) hP1 hD1 hS1 hw hL (wv_tail hs) hl
theorem o_mmax (hX : mCx X) {x y : Int32} {index n1 n2 n3 n4 : Nat} (hw1 : wat n1 = some (.methodLink (mnm (mkk X)).cls index Lib.Math.max.name)) (hg1 : gw (.methodLink (mnm (mkk X)).cls index Lib.Math.max.name) = true) (hw2 : wat n2 = some (.static Lib.Math.max.name)) (hg2 : gw (.static Lib.Math.max.name) = true) (hw3 : wat n3 = some (.initialized "java/lang/Math")) (hg3 : gw (.initialized "java/lang/Math") = true) (hw4 : wat n4 = some (.code Lib.Math.max.name Lib.Math.max.code 2 (some .int))) (hg4 : gw (.code Lib.Math.max.name Lib.Math.max.code 2 (some .int)) = true)
    (hr : mcs r = true) (hcells : cells ≤ (mRm X).cells) (hslots : slots ≤ (mRm X).slots) (hd : decode (mby (mkk X)) pc = .ok (.invokestatic index, 3)) (kk : mGo X cells slots ad L (.int (if x < y then y else x) :: r) W9 (pc + 3)) : mGo X cells slots ad L (.int y :: .int x :: r) W9 pc := by
  obtain ⟨p, l, e, R, s, m, args, below, meth, c, Q, A, dC, dI, dA, adR, RO, k⟩ := X
  obtain ⟨hx, hb, hml, hown, ⟨hwA, hwN⟩, hA, hK, hRO, hROA, hlk, hrt, hfr, hlo, hini⟩ := hX
  have hwd : ∀ (n : Nat) (w : Cond), wat n = some w → gw w = true → w.before args s = true := fun n w h g => mwd hwN h g
  intro H locs ls hP hD hS hn hw hL hs hl
  have hr9 := Nat.le_of_ble_eq_true hr
  have hcells : cells ≤ R.cells := hcells
  have hslots : slots ≤ R.slots := hslots
  exact va_mmax hx hb (hml.trans hl.1.symm) hown (hwd _ _ hw1 hg1) (hwd _ _ hw2 hg2) (hwd _ _ hw3 hg3) (hwd _ _ hw4 hg4) (by omega) (by rw [cz_cats]; omega) hcells hslots hd (kk H locs ls hP hD hS hn hw hL (wv_int (wv_tail (wv_tail hs))) hl)
theorem o_mmin (hX : mCx X) {x y : Int32} {index n1 n2 n3 n4 : Nat} (hw1 : wat n1 = some (.methodLink (mnm (mkk X)).cls index Lib.Math.min.name)) (hg1 : gw (.methodLink (mnm (mkk X)).cls index Lib.Math.min.name) = true) (hw2 : wat n2 = some (.static Lib.Math.min.name)) (hg2 : gw (.static Lib.Math.min.name) = true) (hw3 : wat n3 = some (.initialized "java/lang/Math")) (hg3 : gw (.initialized "java/lang/Math") = true) (hw4 : wat n4 = some (.code Lib.Math.min.name Lib.Math.min.code 2 (some .int))) (hg4 : gw (.code Lib.Math.min.name Lib.Math.min.code 2 (some .int)) = true)
    (hr : mcs r = true) (hcells : cells ≤ (mRm X).cells) (hslots : slots ≤ (mRm X).slots) (hd : decode (mby (mkk X)) pc = .ok (.invokestatic index, 3)) (kk : mGo X cells slots ad L (.int (if y < x then y else x) :: r) W9 (pc + 3)) : mGo X cells slots ad L (.int y :: .int x :: r) W9 pc := by
  obtain ⟨p, l, e, R, s, m, args, below, meth, c, Q, A, dC, dI, dA, adR, RO, k⟩ := X
  obtain ⟨hx, hb, hml, hown, ⟨hwA, hwN⟩, hA, hK, hRO, hROA, hlk, hrt, hfr, hlo, hini⟩ := hX
  have hwd : ∀ (n : Nat) (w : Cond), wat n = some w → gw w = true → w.before args s = true := fun n w h g => mwd hwN h g
  intro H locs ls hP hD hS hn hw hL hs hl
  have hr9 := Nat.le_of_ble_eq_true hr
  have hcells : cells ≤ R.cells := hcells
  have hslots : slots ≤ R.slots := hslots
  exact va_mmin hx hb (hml.trans hl.1.symm) hown (hwd _ _ hw1 hg1) (hwd _ _ hw2 hg2) (hwd _ _ hw3 hg3) (hwd _ _ hw4 hg4) (by omega) (by rw [cz_cats]; omega) hcells hslots hd (kk H locs ls hP hD hS hn hw hL (wv_int (wv_tail (wv_tail hs))) hl)
theorem o_mabs (hX : mCx X) {x : Int32} {index n1 n2 n3 n4 : Nat} (hw1 : wat n1 = some (.methodLink (mnm (mkk X)).cls index Lib.Math.abs.name)) (hg1 : gw (.methodLink (mnm (mkk X)).cls index Lib.Math.abs.name) = true) (hw2 : wat n2 = some (.static Lib.Math.abs.name)) (hg2 : gw (.static Lib.Math.abs.name) = true) (hw3 : wat n3 = some (.initialized "java/lang/Math")) (hg3 : gw (.initialized "java/lang/Math") = true) (hw4 : wat n4 = some (.code Lib.Math.abs.name Lib.Math.abs.code 1 (some .int))) (hg4 : gw (.code Lib.Math.abs.name Lib.Math.abs.code 1 (some .int)) = true)
    (hr : mcs r = true) (hcells : cells ≤ (mRm X).cells) (hslots : slots ≤ (mRm X).slots) (hd : decode (mby (mkk X)) pc = .ok (.invokestatic index, 3)) (kk : mGo X cells slots ad L (.int (if 0 ≤ x then x else 0 - x) :: r) W9 (pc + 3)) : mGo X cells slots ad L (.int x :: r) W9 pc := by
  obtain ⟨p, l, e, R, s, m, args, below, meth, c, Q, A, dC, dI, dA, adR, RO, k⟩ := X
  obtain ⟨hx, hb, hml, hown, ⟨hwA, hwN⟩, hA, hK, hRO, hROA, hlk, hrt, hfr, hlo, hini⟩ := hX
  have hwd : ∀ (n : Nat) (w : Cond), wat n = some w → gw w = true → w.before args s = true := fun n w h g => mwd hwN h g
  intro H locs ls hP hD hS hn hw hL hs hl
  have hr9 := Nat.le_of_ble_eq_true hr
  have hcells : cells ≤ R.cells := hcells
  have hslots : slots ≤ R.slots := hslots
  exact va_mabs hx hb (hml.trans hl.1.symm) hown (hwd _ _ hw1 hg1) (hwd _ _ hw2 hg2) (hwd _ _ hw3 hg3) (hwd _ _ hw4 hg4) (by omega) (by rw [cz_cats]; omega) hcells hslots hd (kk H locs ls hP hD hS hn hw hL (wv_int (wv_tail hs)) hl)
theorem nn_cl {z : Int32} (hz : ¬ z < 0) : z.toInt = (z.toNatClampNeg : Int) := by
  have h0 := Int32.le_iff_toInt_le.mp (Int32.not_lt.mp hz)
  have h1 : (0 : Int32).toInt = 0 := rfl
  show z.toInt = ((z.toInt.toNat : Nat) : Int)
  omega
/-- a copy whose source stands anywhere in the heap -/
theorem vx_cpy {p : Program} {l : Launch} {e : Env} {R : Room} {s : State} {m : MethodId} {args : Array Value} {below : List Frame} {meth : Method} {c : Code} {H H0 : Heap} {locs : List Loc} {cells slots : Nat} {Q : State → Prop} {cc : ByteArray} {pc : Nat} {ls : Array Slot} {rest : List Value} {D : va_G} {cl : List vw_C} {A : Nat → Prop} {a : Nat} {tys : List (ClassId × FieldType)} {ws : va_W}
    (hexec : p.tables.exec = Jvm.exec) (hb : c.code = cc) (hml : c.maxLocals = ls.size) {own : String} {index : Nat} (hown : s.vm.findClass own = some m.cls) (hlink : (Cond.methodLink own index arraycopyName).before args s = true) (hnat : (Cond.native arraycopyName).before args s = true) (hstat : (Cond.static arraycopyName).before args s = true) (hini : (Cond.initialized "java/lang/System").before args s = true)
    (hK : va_K D cl tys s) (hP : va_P D cl ws H) (hD : va_D A ws) (hS : va_S A H0 H locs) (q1 t0 t1 : Nat) {a0 : Nat} {c0 c1 : ClassId} {n0 n1 : Nat} {f g : Nat → Int32} {ty : FieldType} (hc0 : H[a0]? = some (vp_cell c0 (n0, .inl f))) (ha1 : ws[q1]? = some (a, .inl (c1, n1, .inl g))) (ht0 : tys[t0]? = some (c0, ty)) (ht1 : tys[t1]? = some (c1, ty)) (hprim : refKind ty = false)
    {sp dp n : Int32} (h1 : ¬ sp < 0) (h2 : ¬ dp < 0) (h3 : ¬ n < 0) (h4 : sp.toNatClampNeg + n.toNatClampNeg ≤ n0) (h5 : dp.toNatClampNeg + n.toNatClampNeg ≤ n1) (hfit : ∀ i, i < n.toNatClampNeg → fits ty (.int (f (sp.toNatClampNeg + i))) = true)
    (hfr : 1 ≤ R.frames) (hlo : (rest.map fun v => v.category).sum + (nativeFrameWords "java/lang/System" "arraycopy" 5 + 11) ≤ R.locals) (hdg : decode cc pc = .ok (.invokestatic index, 3))
    (kk : ∀ (H1 : Heap) (locs1 : List Loc), va_P D cl (ws.set q1 (a, .inl (c1, n1, .inl (va_cpy f g sp.toNatClampNeg dp.toNatClampNeg n.toNatClampNeg)))) H1 → va_D A (ws.set q1 (a, .inl (c1, n1, .inl (va_cpy f g sp.toNatClampNeg dp.toNatClampNeg n.toNatClampNeg)))) → va_S A H0 H1 locs1 → W p l e R s m args below meth c H1 locs1 cells slots Q (F0 m (pc + 3) ls rest)) : W p l e R s m args below meth c H locs cells slots Q (F0 m pc ls (.int n :: .int dp :: .ref a :: .int sp :: .ref a0 :: rest)) := by
  intro T hT X
  have hc1 : H[a]? = some (vp_cell c1 (n1, .inl g)) := hP q1 _ ha1
  have hlt : a < H.size := (Array.getElem?_eq_some_iff.mp hc1).1
  have hin : A a := hD.2 q1 _ ha1
  obtain ⟨-, k0, hk0, cm0, hkk0⟩ := (hK.2 t0 _ ht0).1 n0 (fun j => .int (f j))
  obtain ⟨-, k1, hk1, cm1, hkk1⟩ := (hK.2 t1 _ ht1).1 n1 (fun j => .int (g j))
  have sz0 : ((vp_cell c0 (n0, .inl f)).slots.size : Int) = (n0 : Int) := by
    show ((arrV c0 n0 (fun j => .int (f j))).slots.size : Int) = _
    rw [arrV_size]
  have sz1 : ((vp_cell c1 (n1, .inl g)).slots.size : Int) = (n1 : Int) := by
    show ((arrV c1 n1 (fun j => .int (g j))).slots.size : Int) = _
    rw [arrV_size]
  have hel : ∀ i, i < n.toNatClampNeg → (vp_cell c0 (n0, .inl f)).slots.getD (sp.toNatClampNeg + i) .null = .int (f (sp.toNatClampNeg + i)) := fun i hi => by
    show (arrV c0 n0 (fun j => .int (f j))).slots.getD _ _ = _
    rw [Array.getD_eq_getD_getElem?, arrV_read _ _ (by omega)]
    rfl
  obtain ⟨vm2, X2, go⟩ := X.arraycopy hexec hown hlink hnat hstat hini (src := a0) (dst := a) (cs := vp_cell c0 (n0, .inl f)) (cd := vp_cell c1 (n1, .inl g)) (srcPos := sp) (destPos := dp) (n := n) (by rw [hT]; exact hc0) (by rw [hT]; exact hc1)
    (fun _ h => by cases h) (fun _ h => by cases h) (fun h => by cases h) (fun h => by cases h) hk0 hk1 hkk0 hkk1 (by simp [hprim]) h1 h2 h3
    (by rw [nn_cl h1, nn_cl h3, sz0]; omega) (by rw [nn_cl h2, nn_cl h3, sz1]; omega)
    (fun _ _ i hi => ⟨by rw [hel i hi]; exact hfit i hi, by rw [hel i hi]; exact trivial⟩)
    (g := F0 m pc ls (.int n :: .int dp :: .ref a :: .int sp :: .ref a0 :: rest)) rfl (by rw [hml]) (rest := rest) rfl (by rw [hb]; exact hdg) hfr (by show 2 * 0 + _ + _ ≤ _; omega)
  rw [show copied (vp_cell c0 (n0, .inl f)) (vp_cell c1 (n1, .inl g)) sp dp n = vp_cell c1 (n1, .inl (va_cpy f g sp.toNatClampNeg dp.toNatClampNeg n.toNatClampNeg)) from va_copied (fun z => .int z) c0 c1 f g h4] at X2 go
  generalize hC : vp_cell c1 (n1, .inl (va_cpy f g sp.toNatClampNeg dp.toNatClampNeg n.toNatClampNeg)) = C at X2 go
  have hh : ((T.setVm vm2).setCell a C).heap = H.setIfInBounds a C := by rw [← hT]; rfl
  have far : ∀ q : Nat, q ≠ a → (H.setIfInBounds a C)[q]? = H[q]? := fun q hq => by simp [Array.getElem?_setIfInBounds, Ne.symm hq]
  have near : (H.setIfInBounds a C)[a]? = some (vp_cell c1 (n1, .inl (va_cpy f g sp.toNatClampNeg dp.toNatClampNeg n.toNatClampNeg))) := by rw [hC]; simp [Array.getElem?_setIfInBounds, hlt]
  obtain ⟨t, a1, b1⟩ := kk _ _ (hP.set hD ha1 near far) (hD.set ha1) ⟨by rw [Array.size_setIfInBounds]; exact hS.1, fun q g1 g2 => by
      rw [far q (fun e => g2 (by rw [e]; exact hin))]
      exact hS.2.1 q g1 g2, fun q hq => by
      rcases List.mem_append.mp hq with h | h
      · exact hS.2.2 q h
      · obtain ⟨z, -, hz⟩ := List.mem_map.mp h
        rw [← hz]
        exact hin⟩ _ hh X2
  exact ⟨t, go t a1, b1⟩
theorem o_copyi (hX : mCx X) {ty : FieldType} {t q0 q1 n0 n1 index m1 m2 m3 m4 : Nat} {f g : Nat → Int32} {sp dp n : Int32} (hw1 : wat m1 = some (.methodLink (mnm (mkk X)).cls index arraycopyName)) (hg1 : gw (.methodLink (mnm (mkk X)).cls index arraycopyName) = true) (hw2 : wat m2 = some (.native arraycopyName)) (hg2 : gw (.native arraycopyName) = true) (hw3 : wat m3 = some (.static arraycopyName)) (hg3 : gw (.static arraycopyName) = true) (hw4 : wat m4 = some (.initialized "java/lang/System")) (hg4 : gw (.initialized "java/lang/System") = true)
    (hq : Nat.blt q1 1000000 = true) (hm0 : mget (mRO X) W9 q0 = some (.inl (t, n0, .inl f))) (hm1 : W9[q1]? = some (.inl (t, n1, .inl g))) (ht : ∀ dA, (tyL dA)[t]? = some (dA t, ty)) (hprim : refKind ty = false)
    (h1 : ¬ sp < 0) (h2 : ¬ dp < 0) (h3 : ¬ n < 0) (h4 : sp.toNatClampNeg + n.toNatClampNeg ≤ n0) (h5 : dp.toNatClampNeg + n.toNatClampNeg ≤ n1) (hfit : ∀ i, i < n.toNatClampNeg → fits ty (.int (f (sp.toNatClampNeg + i))) = true)
    (hr : mcs r = true) (hd : decode (mby (mkk X)) pc = .ok (.invokestatic index, 3)) (kk : mGo X cells slots ad L r (W9.set q1 (.inl (t, n1, .inl (va_cpy f g sp.toNatClampNeg dp.toNatClampNeg n.toNatClampNeg)))) (pc + 3)) : mGo X cells slots ad L (.int n :: .int dp :: .ref q1 :: .int sp :: .ref q0 :: r) W9 pc := by
  obtain ⟨p, l, e, R, s, m, args, below, meth, c, Q, A, dC, dI, dA, adR, RO, k⟩ := X
  obtain ⟨hx, hb, hml, hown, ⟨hwA, hwN⟩, hA, hK, hRO, hROA, hlk, hrt, hfr, hlo, hini⟩ := hX
  have hwd : ∀ (n : Nat) (w : Cond), wat n = some w → gw w = true → w.before args s = true := fun n w h g => mwd hwN h g
  intro H locs ls hP hD hS hn hw hL hs hl
  have hr9 := Nat.le_of_ble_eq_true hr
  have hz : mz adR ad q1 = ad q1 := mz_lt hq
  have hloc9 : ((r.map (cz (mz adR ad))).map fun v => v.category).sum + (nativeFrameWords "java/lang/System" "arraycopy" 5 + 11) ≤ R.locals := by
    have : nativeFrameWords "java/lang/System" "arraycopy" 5 + 11 ≤ 100 := by decide
    rw [cz_cats]
    omega
  show W p l e R s m args below meth c H locs cells slots Q (F0 m pc ls (.int n :: .int dp :: .ref (mz adR ad q1) :: .int sp :: .ref (mz adR ad q0) :: r.map (cz (mz adR ad))))
  rw [hz]
  have kk9 : ∀ (H1 : Heap) (locs1 : List Loc), va_P (dC, dI) vwCl ((cw dA (mz adR ad) ad W9).set q1 (ad q1, .inl (dA t, n1, .inl (va_cpy f g sp.toNatClampNeg dp.toNatClampNeg n.toNatClampNeg)))) H1 → va_D A ((cw dA (mz adR ad) ad W9).set q1 (ad q1, .inl (dA t, n1, .inl (va_cpy f g sp.toNatClampNeg dp.toNatClampNeg n.toNatClampNeg)))) → va_S A s.heap H1 locs1 → W p l e R s m args below meth c H1 locs1 cells slots Q (F0 m (pc + 3) ls (r.map (cz (mz adR ad)))) := by
    intro H1 locs1 hP1 hD1 hS1
    have he := cw_set dA (mz adR ad) ad W9 q1 (.inl (t, n1, .inl (va_cpy f g sp.toNatClampNeg dp.toNatClampNeg n.toNatClampNeg)))
    have hP2 : va_P (dC, dI) vwCl ((cw dA (mz adR ad) ad W9).set q1 (ad q1, czE dA (mz adR ad) (.inl (t, n1, .inl (va_cpy f g sp.toNatClampNeg dp.toNatClampNeg n.toNatClampNeg))))) H1 := hP1
    have hD2 : va_D A ((cw dA (mz adR ad) ad W9).set q1 (ad q1, czE dA (mz adR ad) (.inl (t, n1, .inl (va_cpy f g sp.toNatClampNeg dp.toNatClampNeg n.toNatClampNeg))))) := hD1
    rw [he] at hP2 hD2
    exact kk H1 locs1 ls hP2 hD2 hS1 (by rw [List.length_set]; exact hn) (by rw [List.length_set]; exact wW_set trivial hw) (by rw [List.length_set]; exact hL) (by rw [List.length_set]; exact wv_tail (wv_tail (wv_tail (wv_tail (wv_tail hs))))) hl
  have hd1 : (cw dA (mz adR ad) ad W9)[q1]? = some (ad q1, .inl (dA t, n1, .inl g)) := by rw [cw_at, hm1]; rfl
  rcases m_read (dA := dA) (ad := ad) hRO hROA hm0 with hat9 | ⟨hr9, hlt9, hna9⟩
  · exact vx_cpy (D := (dC, dI)) (cl := vwCl) (tys := tyL dA) hx hb (hml.trans hl.1.symm) hown (hwd _ _ hw1 hg1) (hwd _ _ hw2 hg2) (hwd _ _ hw3 hg3) (hwd _ _ hw4 hg4) hK hP hD hS q1 t t (c0 := dA t) (c1 := dA t) (n0 := n0) (n1 := n1) (f := f) (g := g) (ty := ty) (hP q0 _ hat9) hd1 (ht dA) (ht dA) hprim h1 h2 h3 h4 h5 hfit (by omega) hloc9 hd kk9
  · rcases hr9 with ⟨rfl, hT9⟩ | ⟨rfl, hX9⟩
    · obtain ⟨-, rfl⟩ := Prod.mk.inj (Option.some.inj ((ht dA).symm.trans (tyL_at dA).1))
      exact vk_copyt (D := (dC, dI)) (cl := vwCl) (tys := tyL dA) hx hb (hml.trans hl.1.symm) hown (hwd _ _ hw1 hg1) (hwd _ _ hw2 hg2) (hwd _ _ hw3 hg3) (hwd _ _ hw4 hg4) hK hP hD hS hT9 q1 0 hd1 (ht dA) h1 h2 h3 h4 h5 hfit (by omega) hloc9 hd kk9
    · exact va_copyx (D := (dC, dI)) (cl := vwCl) (tys := tyL dA) hx hb (hml.trans hl.1.symm) hown (hwd _ _ hw1 hg1) (hwd _ _ hw2 hg2) (hwd _ _ hw3 hg3) (hwd _ _ hw4 hg4) hK hP hD hS hX9 hlt9 hna9 q1 1 hd1 (tyL_at dA).2.1 h1 h2 h3 h4 h5 (by omega) hloc9 hd kk9
theorem o_objInit (hX : mCx X) {index n1 n2 n3 q : Nat} (hw1 : wat n1 = some (.methodLink (mnm (mkk X)).cls index Lib.objectInit)) (hg1 : gw (.methodLink (mnm (mkk X)).cls index Lib.objectInit) = true) (hw2 : wat n2 = some (.instanceMethod Lib.objectInit)) (hg2 : gw (.instanceMethod Lib.objectInit) = true) (hw3 : wat n3 = some (.code Lib.objectInit ⟨#[0xb1]⟩ 1 none)) (hg3 : gw (.code Lib.objectInit ⟨#[0xb1]⟩ 1 none) = true) (hr : mcs r = true) (hd : decode (mby (mkk X)) pc = .ok (.invokespecial index, 3)) (kk : mGo X cells slots ad L r W9 (pc + 3)) : mGo X cells slots ad L (.ref q :: r) W9 pc := by
  obtain ⟨p, l, e, R, s, m, args, below, meth, c, Q, A, dC, dI, dA, adR, RO, k⟩ := X
  obtain ⟨hx, hb, hml, hown, ⟨hwA, hwN⟩, hA, hK, hRO, hROA, hlk, hrt, hfr, hlo, hini⟩ := hX
  have hwd : ∀ (n : Nat) (w : Cond), wat n = some w → gw w = true → w.before args s = true := fun n w h g => mwd hwN h g
  intro H locs ls hP hD hS hn hw hL hs hl
  have hr9 := Nat.le_of_ble_eq_true hr
  exact W.objInit hx hb hown (hwd _ _ hw1 hg1) (hwd _ _ hw2 hg2) (hwd _ _ hw3 hg3) (g := F0 m pc ls (.ref (mz adR ad q) :: r.map (cz (mz adR ad)))) rfl (hl.1.trans hml.symm) rfl hd (by omega) (by show 0 + _ + 12 ≤ _; rw [cz_cats]; omega) (kk H locs ls hP hD hS hn hw hL (wv_tail hs) hl)
theorem o_ifnullR (hX : mCx X) {off : Int}  {q : Nat} (hd : decode (mby (mkk X)) pc = .ok (.ifnull off, 3)) (kk : mGo X cells slots ad L r W9 (pc + 3)) : mGo X cells slots ad L (.ref q :: r) W9 pc := by
  obtain ⟨p, l, e, R, s, m, args, below, meth, c, Q, A, dC, dI, dA, adR, RO, k⟩ := X
  obtain ⟨hx, hb, hml, hown, ⟨hwA, hwN⟩, hA, hK, hRO, hROA, hlk, hrt, hfr, hlo, hini⟩ := hX
  have hwd : ∀ (n : Nat) (w : Cond), wat n = some w → gw w = true → w.before args s = true := fun n w h g => mwd hwN h g
  intro H locs ls hP hD hS hn hw hL hs hl
  exact lv_ifnull hx hb hd  (kk H locs ls hP hD hS hn hw hL (wv_tail hs) hl)
theorem o_ifnullN (hX : mCx X) {off : Int} {t : Nat} (ht : (pc : Int) + off = (t : Int))  (hd : decode (mby (mkk X)) pc = .ok (.ifnull off, 3)) (kk : mGo X cells slots ad L r W9 t) : mGo X cells slots ad L (.null :: r) W9 pc := by
  obtain ⟨p, l, e, R, s, m, args, below, meth, c, Q, A, dC, dI, dA, adR, RO, k⟩ := X
  obtain ⟨hx, hb, hml, hown, ⟨hwA, hwN⟩, hA, hK, hRO, hROA, hlk, hrt, hfr, hlo, hini⟩ := hX
  have hwd : ∀ (n : Nat) (w : Cond), wat n = some w → gw w = true → w.before args s = true := fun n w h g => mwd hwN h g
  intro H locs ls hP hD hS hn hw hL hs hl
  exact lv_ifnullN hx hb hd ht (kk H locs ls hP hD hS hn hw hL (wv_tail hs) hl)
theorem o_ifnnR (hX : mCx X) {off : Int} {t : Nat} (ht : (pc : Int) + off = (t : Int)) {q : Nat} (hd : decode (mby (mkk X)) pc = .ok (.ifnonnull off, 3)) (kk : mGo X cells slots ad L r W9 t) : mGo X cells slots ad L (.ref q :: r) W9 pc := by
  obtain ⟨p, l, e, R, s, m, args, below, meth, c, Q, A, dC, dI, dA, adR, RO, k⟩ := X
  obtain ⟨hx, hb, hml, hown, ⟨hwA, hwN⟩, hA, hK, hRO, hROA, hlk, hrt, hfr, hlo, hini⟩ := hX
  have hwd : ∀ (n : Nat) (w : Cond), wat n = some w → gw w = true → w.before args s = true := fun n w h g => mwd hwN h g
  intro H locs ls hP hD hS hn hw hL hs hl
  exact lv_ifnonnull hx hb hd ht (kk H locs ls hP hD hS hn hw hL (wv_tail hs) hl)
theorem o_ifnnN (hX : mCx X) {off : Int}   (hd : decode (mby (mkk X)) pc = .ok (.ifnonnull off, 3)) (kk : mGo X cells slots ad L r W9 (pc + 3)) : mGo X cells slots ad L (.null :: r) W9 pc := by
  obtain ⟨p, l, e, R, s, m, args, below, meth, c, Q, A, dC, dI, dA, adR, RO, k⟩ := X
  obtain ⟨hx, hb, hml, hown, ⟨hwA, hwN⟩, hA, hK, hRO, hROA, hlk, hrt, hfr, hlo, hini⟩ := hX
  have hwd : ∀ (n : Nat) (w : Cond), wat n = some w → gw w = true → w.before args s = true := fun n w h g => mwd hwN h g
  intro H locs ls hP hD hS hn hw hL hs hl
  exact lv_ifnonnullN hx hb hd  (kk H locs ls hP hD hS hn hw hL (wv_tail hs) hl)
end ALLOC
