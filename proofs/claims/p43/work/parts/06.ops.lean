def wA : List Cond := lw_tbl.filter goodWord
def nestWord : Cond → Bool
  | .fieldLinkNest .. => true
  | .methodLinkNest .. => true
  | .arrayOver (.object _) => true
  | .castable .. => true
  | .declares _ => true
  | _ => false
def gw (w : Cond) : Bool := goodWord w || nestWord w
def wN : List Cond := lw_tbl.filter gw
theorem mwd {P : Cond → Prop} {n : Nat} {w : Cond} (h : ∀ w ∈ wN, P w) (hn : wat n = some w) (g : gw w = true) : P w := h w (List.mem_filter.mpr ⟨wat_mem hn, g⟩)
def wH : List Cond := lw_tbl.filter nestWord
theorem nest_moved {w : Cond} {u U : State} (h : u.vm = U.vm) (g : nestWord w = true) (hb : w.before #[] u = true) : w.before #[] U = true := by
  cases w with
  | castable a b => exact va_tabs rfl h hb
  | declares a => exact va_tabs rfl h hb
  | fieldLinkNest a b c d e f => exact va_tabs rfl h hb
  | methodLinkNest a b c d => exact va_tabs rfl h hb
  | arrayOver ty =>
    cases ty with
    | object C => exact va_AO.moved (u := u) (by rw [h]; exact Vm.Alike.refl _) hb
    | _ => cases g
  | _ => cases g
theorem nest_warm {w : Cond} {s U : State} (hW : s.WarmedH U.vm) (g : nestWord w = true) (hb : w.before #[] s = true) : w.before #[] U = true := by
  cases w with
  | castable a b => exact va_Nw.warmC hW hb
  | declares a => exact va_Nw.warmD hW hb
  | fieldLinkNest a b c d e f => exact va_Nw.warmF hW hb
  | methodLinkNest a b c d => exact va_Nw.warmM hW hb
  | arrayOver ty =>
    cases ty with
    | object C => exact va_AO.moved hW.alike hb
    | _ => cases g
  | _ => cases g
theorem nest_args {w : Cond} {args : Array Value} {U : State} (g : nestWord w = true) (hb : w.before #[] U = true) : w.before args U = true := by
  cases w with
  | castable a b => exact va_tabs rfl rfl hb
  | declares a => exact va_tabs rfl rfl hb
  | fieldLinkNest a b c d e f => exact va_tabs rfl rfl hb
  | methodLinkNest a b c d => exact va_tabs rfl rfl hb
  | arrayOver ty => exact hb
  | _ => cases g
theorem wN_of {args : Array Value} {s : State} (h1 : ∀ w ∈ wA, w.before args s = true) (h2 : ∀ w ∈ wH, w.before #[] s = true) : ∀ w ∈ wN, w.before args s = true := by
  intro w hw
  obtain ⟨h3, h4⟩ := List.mem_filter.mp hw
  unfold gw at h4
  rw [Bool.or_eq_true] at h4
  rcases h4 with h4 | h4
  · exact h1 w (List.mem_filter.mpr ⟨h3, h4⟩)
  · exact nest_args h4 (h2 w (List.mem_filter.mpr ⟨h3, h4⟩))
theorem wA_mem {n : Nat} {w : Cond} (h : wat n = some w) (g : goodWord w = true) : w ∈ wA := List.mem_filter.mpr ⟨wat_mem h, g⟩
def tyL (dA : Nat → ClassId) : List (ClassId × FieldType) := [(dA 0, .byte), (dA 1, .int), (dA 2, .boolean), (dA 3, .object "MuleTrain$Train")]
/-- what is only read, as it stood at the start: a row of bytes, the script, a text -/
def ro_ob (dC : Nat → ClassId) (dI : Nat → Nat → Nat) (ci : Nat) (fs : List Value) (a : Nat) (H : Heap) : Prop := ∃ (r : vw_C) (cell : Cell), vwCl[ci]? = some r ∧ H[a]? = some cell ∧ cell.cls = dC ci ∧ (cell.vm ≠ .unknown ∧ cell.vm.isStatics = false) ∧ ∀ (k : Nat) (v : Value), fs[k]? = some v → cell.slots[dI ci k]? = some v
def ro_at (dC : Nat → ClassId) (dI : Nat → Nat → Nat) (z : Nat → Nat) (a : Nat) (e : mE) (A : Nat → Prop) (U : State) (H : Heap) : Prop := match e with
  | .inl (t, n, .inl f) => (t = 0 ∧ va_T .byte a n (fun i => .int (f i)) A U H) ∨ (t = 1 ∧ va_X a n f U H)
  | .inl (_, _, .inr _) => False
  | .inr (ci, fs) => ro_ob dC dI ci (fs.map (cz z)) a H
theorem va_X_moved {b L : Nat} {xs : Nat → Int32} {u U : State} {H : Heap} (hvm : u.vm.Alike U.vm) (h : va_X b L xs u H) : va_X b L xs U H := by
  obtain ⟨cell, h1, h2, h3⟩ := h
  exact ⟨cell, h1, State.isArrayOf_alike hvm h2, h3⟩
theorem ro_same {dC : Nat → ClassId} {dI : Nat → Nat → Nat} {z : Nat → Nat} {a : Nat} {e : mE} {A : Nat → Prop} {u U : State} {H : Heap} (hvm : u.vm.Alike U.vm) (h : ro_at dC dI z a e A u H) : ro_at dC dI z a e A U H := by
  cases e with
  | inl x =>
    obtain ⟨t, n, f⟩ := x
    cases f with
    | inl f =>
      rcases h with ⟨h1, h2⟩ | ⟨h1, h2⟩
      · exact Or.inl ⟨h1, va_T.moved hvm h2⟩
      · exact Or.inr ⟨h1, va_X_moved hvm h2⟩
    | inr f => exact h
  | inr x => exact h
theorem ro_move {dC : Nat → ClassId} {dI : Nat → Nat → Nat} {z : Nat → Nat} {a : Nat} {e : mE} {A B : Nat → Prop} {u U : State} {H H1 : Heap} (hvm : u.vm.Alike U.vm) (hlt : a < H.size) (hna : ¬ A a) (hq : ∀ q : Nat, q < H.size → ¬ A q → H1[q]? = H[q]?) (hAB : ∀ q, B q → A q) (h : ro_at dC dI z a e A u H) : ro_at dC dI z a e B U H1 := by
  have e1 := hq a hlt hna
  cases e with
  | inl x =>
    obtain ⟨t, n, f⟩ := x
    cases f with
    | inl f =>
      rcases h with ⟨h1, h2⟩ | ⟨h1, h2⟩
      · exact Or.inl ⟨h1, (va_T.moved hvm (h2.kept hq)).narrow hAB⟩
      · obtain ⟨cell, g1, g2⟩ := va_X_moved hvm h2
        exact Or.inr ⟨h1, cell, e1.trans g1, g2⟩
    | inr f => exact h
  | inr x =>
    obtain ⟨ci, fs⟩ := x
    obtain ⟨r, cell, h1, h2, h3⟩ := h
    exact ⟨r, cell, h1, e1.trans h2, h3⟩
abbrev mX : Type := Program × Launch × Env × Room × State × MethodId × Array Value × List Frame × Method × Code × (State → Prop) × (Nat → Prop) × (Nat → ClassId) × (Nat → Nat → Nat) × (Nat → ClassId) × (Nat → Nat) × List mE × Nat
def mkk (X : mX) : Nat := X.2.2.2.2.2.2.2.2.2.2.2.2.2.2.2.2.2
def mRO (X : mX) : List mE := X.2.2.2.2.2.2.2.2.2.2.2.2.2.2.2.2.1
/-- what holds all along a method's run -/
def mCx (X : mX) : Prop := match X with
  | (p, l, e, R, s, m, args, below, meth, c, Q, A, dC, dI, dA, adR, RO, k) =>
    p.tables.exec = Jvm.exec ∧ c.code = mby k ∧ c.maxLocals = mml k ∧ s.vm.findClass (mnm k).cls = some m.cls ∧ ((∀ w ∈ wA, w.before args s = true) ∧ ∀ w ∈ wN, w.before args s = true) ∧ (∀ q, s.heap.size ≤ q → A q) ∧ va_K (dC, dI) vwCl (tyL dA) s ∧
    (∀ (ad : Nat → Nat) (j : Nat) (e : mE), RO[j]? = some e → ro_at dC dI (mz adR ad) (adR j) e A s s.heap) ∧ (∀ j, j < RO.length → adR j < s.heap.size ∧ ¬ A (adR j)) ∧ meth.locks = false ∧ meth.sig.returnType = mret k ∧ 30 ≤ R.frames ∧ 300 ≤ R.locals ∧ (mini k = true → meth.name = "<init>")
/-- from here, with these locals, this stack, this world, the JVM comes to its goal -/
def mGo (X : mX) (cells slots : Nat) (ad : Nat → Nat) (L st : List Value) (W9 : List mE) (pc : Nat) : Prop := match X with
  | (p, l, e, R, s, m, args, below, meth, c, Q, A, dC, dI, dA, adR, RO, k) => ∀ (H : Heap) (locs : List Loc) (ls : Array Slot), va_P (dC, dI) vwCl (cw dA (mz adR ad) ad W9) H → va_D A (cw dA (mz adR ad) ad W9) → va_S A s.heap H locs → W9.length ≤ 1000000 → wW W9.length W9 → wv W9.length L → wv W9.length st → lz (mz adR ad) ls (mml k) L →
    W p l e R s m args below meth c H locs cells slots Q (F0 m pc ls (st.map (cz (mz adR ad))))
section OPS
variable {X : mX} {cells slots : Nat} {ad : Nat → Nat} {L r : List Value} {W9 : List mE} {pc : Nat}
theorem o_iadd (hX : mCx X) {x y : Int32} (hd : decode (mby (mkk X)) pc = .ok (.iadd, 1)) (kk : mGo X cells slots ad L (.int (x + y) :: r) W9 (pc + 1)) : mGo X cells slots ad L (.int y :: .int x :: r) W9 pc := by
  obtain ⟨p, l, e, R, s, m, args, below, meth, c, Q, A, dC, dI, dA, adR, RO, k⟩ := X
  obtain ⟨hx, hb, hml, hown, ⟨hwA, hwN⟩, hA, hK, hRO, hROA, hlk, hrt, hfr, hlo, hini⟩ := hX
  have hwd : ∀ (n : Nat) (w : Cond), wat n = some w → gw w = true → w.before args s = true := fun n w h g => mwd hwN h g
  intro H locs ls hP hD hS hn hw hL hs hl
  exact lv_iadd hx hb hd  (kk H locs ls hP hD hS hn hw hL (wv_int (wv_tail (wv_tail hs))) hl)
theorem o_isub (hX : mCx X) {x y : Int32} (hd : decode (mby (mkk X)) pc = .ok (.isub, 1)) (kk : mGo X cells slots ad L (.int (x - y) :: r) W9 (pc + 1)) : mGo X cells slots ad L (.int y :: .int x :: r) W9 pc := by
  obtain ⟨p, l, e, R, s, m, args, below, meth, c, Q, A, dC, dI, dA, adR, RO, k⟩ := X
  obtain ⟨hx, hb, hml, hown, ⟨hwA, hwN⟩, hA, hK, hRO, hROA, hlk, hrt, hfr, hlo, hini⟩ := hX
  have hwd : ∀ (n : Nat) (w : Cond), wat n = some w → gw w = true → w.before args s = true := fun n w h g => mwd hwN h g
  intro H locs ls hP hD hS hn hw hL hs hl
  exact lv_isub hx hb hd  (kk H locs ls hP hD hS hn hw hL (wv_int (wv_tail (wv_tail hs))) hl)
theorem o_imul (hX : mCx X) {x y : Int32} (hd : decode (mby (mkk X)) pc = .ok (.imul, 1)) (kk : mGo X cells slots ad L (.int (x * y) :: r) W9 (pc + 1)) : mGo X cells slots ad L (.int y :: .int x :: r) W9 pc := by
  obtain ⟨p, l, e, R, s, m, args, below, meth, c, Q, A, dC, dI, dA, adR, RO, k⟩ := X
  obtain ⟨hx, hb, hml, hown, ⟨hwA, hwN⟩, hA, hK, hRO, hROA, hlk, hrt, hfr, hlo, hini⟩ := hX
  have hwd : ∀ (n : Nat) (w : Cond), wat n = some w → gw w = true → w.before args s = true := fun n w h g => mwd hwN h g
  intro H locs ls hP hD hS hn hw hL hs hl
  exact lv_imul hx hb hd  (kk H locs ls hP hD hS hn hw hL (wv_int (wv_tail (wv_tail hs))) hl)
theorem o_iand (hX : mCx X) {x y : Int32} (hd : decode (mby (mkk X)) pc = .ok (.iand, 1)) (kk : mGo X cells slots ad L (.int (x &&& y) :: r) W9 (pc + 1)) : mGo X cells slots ad L (.int y :: .int x :: r) W9 pc := by
  obtain ⟨p, l, e, R, s, m, args, below, meth, c, Q, A, dC, dI, dA, adR, RO, k⟩ := X
  obtain ⟨hx, hb, hml, hown, ⟨hwA, hwN⟩, hA, hK, hRO, hROA, hlk, hrt, hfr, hlo, hini⟩ := hX
  have hwd : ∀ (n : Nat) (w : Cond), wat n = some w → gw w = true → w.before args s = true := fun n w h g => mwd hwN h g
  intro H locs ls hP hD hS hn hw hL hs hl
  exact lv_iand hx hb hd  (kk H locs ls hP hD hS hn hw hL (wv_int (wv_tail (wv_tail hs))) hl)
theorem o_ior (hX : mCx X) {x y : Int32} (hd : decode (mby (mkk X)) pc = .ok (.ior, 1)) (kk : mGo X cells slots ad L (.int (x ||| y) :: r) W9 (pc + 1)) : mGo X cells slots ad L (.int y :: .int x :: r) W9 pc := by
  obtain ⟨p, l, e, R, s, m, args, below, meth, c, Q, A, dC, dI, dA, adR, RO, k⟩ := X
  obtain ⟨hx, hb, hml, hown, ⟨hwA, hwN⟩, hA, hK, hRO, hROA, hlk, hrt, hfr, hlo, hini⟩ := hX
  have hwd : ∀ (n : Nat) (w : Cond), wat n = some w → gw w = true → w.before args s = true := fun n w h g => mwd hwN h g
  intro H locs ls hP hD hS hn hw hL hs hl
  exact lv_ior hx hb hd  (kk H locs ls hP hD hS hn hw hL (wv_int (wv_tail (wv_tail hs))) hl)
theorem o_ishl (hX : mCx X) {x y : Int32} (hd : decode (mby (mkk X)) pc = .ok (.ishl, 1)) (kk : mGo X cells slots ad L (.int (x <<< (y &&& 31)) :: r) W9 (pc + 1)) : mGo X cells slots ad L (.int y :: .int x :: r) W9 pc := by
  obtain ⟨p, l, e, R, s, m, args, below, meth, c, Q, A, dC, dI, dA, adR, RO, k⟩ := X
  obtain ⟨hx, hb, hml, hown, ⟨hwA, hwN⟩, hA, hK, hRO, hROA, hlk, hrt, hfr, hlo, hini⟩ := hX
  have hwd : ∀ (n : Nat) (w : Cond), wat n = some w → gw w = true → w.before args s = true := fun n w h g => mwd hwN h g
  intro H locs ls hP hD hS hn hw hL hs hl
  exact lv_ishl hx hb hd  (kk H locs ls hP hD hS hn hw hL (wv_int (wv_tail (wv_tail hs))) hl)
theorem o_ishr (hX : mCx X) {x y : Int32} (hd : decode (mby (mkk X)) pc = .ok (.ishr, 1)) (kk : mGo X cells slots ad L (.int (x >>> (y &&& 31)) :: r) W9 (pc + 1)) : mGo X cells slots ad L (.int y :: .int x :: r) W9 pc := by
  obtain ⟨p, l, e, R, s, m, args, below, meth, c, Q, A, dC, dI, dA, adR, RO, k⟩ := X
  obtain ⟨hx, hb, hml, hown, ⟨hwA, hwN⟩, hA, hK, hRO, hROA, hlk, hrt, hfr, hlo, hini⟩ := hX
  have hwd : ∀ (n : Nat) (w : Cond), wat n = some w → gw w = true → w.before args s = true := fun n w h g => mwd hwN h g
  intro H locs ls hP hD hS hn hw hL hs hl
  exact lv_ishr hx hb hd  (kk H locs ls hP hD hS hn hw hL (wv_int (wv_tail (wv_tail hs))) hl)
theorem o_iushr (hX : mCx X) {x y : Int32} (hd : decode (mby (mkk X)) pc = .ok (.iushr, 1)) (kk : mGo X cells slots ad L (.int (x.toUInt32 >>> (y.toUInt32 &&& Int32.toUInt32 31)).toInt32 :: r) W9 (pc + 1)) : mGo X cells slots ad L (.int y :: .int x :: r) W9 pc := by
  obtain ⟨p, l, e, R, s, m, args, below, meth, c, Q, A, dC, dI, dA, adR, RO, k⟩ := X
  obtain ⟨hx, hb, hml, hown, ⟨hwA, hwN⟩, hA, hK, hRO, hROA, hlk, hrt, hfr, hlo, hini⟩ := hX
  have hwd : ∀ (n : Nat) (w : Cond), wat n = some w → gw w = true → w.before args s = true := fun n w h g => mwd hwN h g
  intro H locs ls hP hD hS hn hw hL hs hl
  exact lv_iushr hx hb hd rfl (kk H locs ls hP hD hS hn hw hL (wv_int (wv_tail (wv_tail hs))) hl)
theorem o_ineg (hX : mCx X) {x : Int32} (hd : decode (mby (mkk X)) pc = .ok (.ineg, 1)) (kk : mGo X cells slots ad L (.int (-x) :: r) W9 (pc + 1)) : mGo X cells slots ad L (.int x :: r) W9 pc := by
  obtain ⟨p, l, e, R, s, m, args, below, meth, c, Q, A, dC, dI, dA, adR, RO, k⟩ := X
  obtain ⟨hx, hb, hml, hown, ⟨hwA, hwN⟩, hA, hK, hRO, hROA, hlk, hrt, hfr, hlo, hini⟩ := hX
  have hwd : ∀ (n : Nat) (w : Cond), wat n = some w → gw w = true → w.before args s = true := fun n w h g => mwd hwN h g
  intro H locs ls hP hD hS hn hw hL hs hl
  exact lv_ineg hx hb hd  (kk H locs ls hP hD hS hn hw hL (wv_int (wv_tail hs)) hl)
theorem o_i2b (hX : mCx X) {x : Int32} (hd : decode (mby (mkk X)) pc = .ok (.i2b, 1)) (kk : mGo X cells slots ad L (.int x.toInt8.toInt32 :: r) W9 (pc + 1)) : mGo X cells slots ad L (.int x :: r) W9 pc := by
  obtain ⟨p, l, e, R, s, m, args, below, meth, c, Q, A, dC, dI, dA, adR, RO, k⟩ := X
  obtain ⟨hx, hb, hml, hown, ⟨hwA, hwN⟩, hA, hK, hRO, hROA, hlk, hrt, hfr, hlo, hini⟩ := hX
  have hwd : ∀ (n : Nat) (w : Cond), wat n = some w → gw w = true → w.before args s = true := fun n w h g => mwd hwN h g
  intro H locs ls hP hD hS hn hw hL hs hl
  exact lv_i2b hx hb hd rfl (kk H locs ls hP hD hS hn hw hL (wv_int (wv_tail hs)) hl)
theorem o_i2c (hX : mCx X) {x : Int32} (hd : decode (mby (mkk X)) pc = .ok (.i2c, 1)) (kk : mGo X cells slots ad L (.int (x.toUInt32 % 65536).toInt32 :: r) W9 (pc + 1)) : mGo X cells slots ad L (.int x :: r) W9 pc := by
  obtain ⟨p, l, e, R, s, m, args, below, meth, c, Q, A, dC, dI, dA, adR, RO, k⟩ := X
  obtain ⟨hx, hb, hml, hown, ⟨hwA, hwN⟩, hA, hK, hRO, hROA, hlk, hrt, hfr, hlo, hini⟩ := hX
  have hwd : ∀ (n : Nat) (w : Cond), wat n = some w → gw w = true → w.before args s = true := fun n w h g => mwd hwN h g
  intro H locs ls hP hD hS hn hw hL hs hl
  exact lv_i2c hx hb hd rfl (kk H locs ls hP hD hS hn hw hL (wv_int (wv_tail hs)) hl)
theorem o_i2l (hX : mCx X) {x : Int32} (hd : decode (mby (mkk X)) pc = .ok (.i2l, 1)) (kk : mGo X cells slots ad L (.long x.toInt64 :: r) W9 (pc + 1)) : mGo X cells slots ad L (.int x :: r) W9 pc := by
  obtain ⟨p, l, e, R, s, m, args, below, meth, c, Q, A, dC, dI, dA, adR, RO, k⟩ := X
  obtain ⟨hx, hb, hml, hown, ⟨hwA, hwN⟩, hA, hK, hRO, hROA, hlk, hrt, hfr, hlo, hini⟩ := hX
  have hwd : ∀ (n : Nat) (w : Cond), wat n = some w → gw w = true → w.before args s = true := fun n w h g => mwd hwN h g
  intro H locs ls hP hD hS hn hw hL hs hl
  exact lv_i2l hx hb hd rfl (kk H locs ls hP hD hS hn hw hL (wv_cons (fun _ e => by cases e) (wv_tail hs)) hl)
theorem o_i2f (hX : mCx X) {x : Int32} (hd : decode (mby (mkk X)) pc = .ok (.i2f, 1)) (kk : mGo X cells slots ad L (.float (FP.i2f x) :: r) W9 (pc + 1)) : mGo X cells slots ad L (.int x :: r) W9 pc := by
  obtain ⟨p, l, e, R, s, m, args, below, meth, c, Q, A, dC, dI, dA, adR, RO, k⟩ := X
  obtain ⟨hx, hb, hml, hown, ⟨hwA, hwN⟩, hA, hK, hRO, hROA, hlk, hrt, hfr, hlo, hini⟩ := hX
  have hwd : ∀ (n : Nat) (w : Cond), wat n = some w → gw w = true → w.before args s = true := fun n w h g => mwd hwN h g
  intro H locs ls hP hD hS hn hw hL hs hl
  exact lv_i2f hx hb hd  (kk H locs ls hP hD hS hn hw hL (wv_cons (fun _ e => by cases e) (wv_tail hs)) hl)
theorem o_i2d (hX : mCx X) {x : Int32} (hd : decode (mby (mkk X)) pc = .ok (.i2d, 1)) (kk : mGo X cells slots ad L (.double (FP.i2d x) :: r) W9 (pc + 1)) : mGo X cells slots ad L (.int x :: r) W9 pc := by
  obtain ⟨p, l, e, R, s, m, args, below, meth, c, Q, A, dC, dI, dA, adR, RO, k⟩ := X
  obtain ⟨hx, hb, hml, hown, ⟨hwA, hwN⟩, hA, hK, hRO, hROA, hlk, hrt, hfr, hlo, hini⟩ := hX
  have hwd : ∀ (n : Nat) (w : Cond), wat n = some w → gw w = true → w.before args s = true := fun n w h g => mwd hwN h g
  intro H locs ls hP hD hS hn hw hL hs hl
  exact lv_i2d hx hb hd  (kk H locs ls hP hD hS hn hw hL (wv_cons (fun _ e => by cases e) (wv_tail hs)) hl)
theorem o_lcmp (hX : mCx X) {x y : Int64} (hd : decode (mby (mkk X)) pc = .ok (.lcmp, 1)) (kk : mGo X cells slots ad L (.int (lg_cmp x y) :: r) W9 (pc + 1)) : mGo X cells slots ad L (.long y :: .long x :: r) W9 pc := by
  obtain ⟨p, l, e, R, s, m, args, below, meth, c, Q, A, dC, dI, dA, adR, RO, k⟩ := X
  obtain ⟨hx, hb, hml, hown, ⟨hwA, hwN⟩, hA, hK, hRO, hROA, hlk, hrt, hfr, hlo, hini⟩ := hX
  have hwd : ∀ (n : Nat) (w : Cond), wat n = some w → gw w = true → w.before args s = true := fun n w h g => mwd hwN h g
  intro H locs ls hP hD hS hn hw hL hs hl
  exact W.lcmp hx hb hd  (kk H locs ls hP hD hS hn hw hL (wv_int (wv_tail (wv_tail hs))) hl)
theorem o_fcmp (hX : mCx X) {x y : UInt32} {op : CmpOp} (hd : decode (mby (mkk X)) pc = .ok (.fcmp op, 1)) (kk : mGo X cells slots ad L (.int (Op.cmpValue (FP.fcmp x y) op) :: r) W9 (pc + 1)) : mGo X cells slots ad L (.float y :: .float x :: r) W9 pc := by
  obtain ⟨p, l, e, R, s, m, args, below, meth, c, Q, A, dC, dI, dA, adR, RO, k⟩ := X
  obtain ⟨hx, hb, hml, hown, ⟨hwA, hwN⟩, hA, hK, hRO, hROA, hlk, hrt, hfr, hlo, hini⟩ := hX
  have hwd : ∀ (n : Nat) (w : Cond), wat n = some w → gw w = true → w.before args s = true := fun n w h g => mwd hwN h g
  intro H locs ls hP hD hS hn hw hL hs hl
  exact lv_fcmp hx hb hd  (kk H locs ls hP hD hS hn hw hL (wv_int (wv_tail (wv_tail hs))) hl)
theorem o_dcmp (hX : mCx X) {x y : UInt64} {op : CmpOp} (hd : decode (mby (mkk X)) pc = .ok (.dcmp op, 1)) (kk : mGo X cells slots ad L (.int (Op.cmpValue (FP.dcmp x y) op) :: r) W9 (pc + 1)) : mGo X cells slots ad L (.double y :: .double x :: r) W9 pc := by
  obtain ⟨p, l, e, R, s, m, args, below, meth, c, Q, A, dC, dI, dA, adR, RO, k⟩ := X
  obtain ⟨hx, hb, hml, hown, ⟨hwA, hwN⟩, hA, hK, hRO, hROA, hlk, hrt, hfr, hlo, hini⟩ := hX
  have hwd : ∀ (n : Nat) (w : Cond), wat n = some w → gw w = true → w.before args s = true := fun n w h g => mwd hwN h g
  intro H locs ls hP hD hS hn hw hL hs hl
  exact lv_dcmp hx hb hd  (kk H locs ls hP hD hS hn hw hL (wv_int (wv_tail (wv_tail hs))) hl)
theorem o_iconst (hX : mCx X) {n : Int} {v : Int32} (hv : Int32.ofInt n = v) (hd : decode (mby (mkk X)) pc = .ok (.iconst n, 1)) (kk : mGo X cells slots ad L (.int v :: r) W9 (pc + 1)) : mGo X cells slots ad L r W9 pc := by
  obtain ⟨p, l, e, R, s, m, args, below, meth, c, Q, A, dC, dI, dA, adR, RO, k⟩ := X
  obtain ⟨hx, hb, hml, hown, ⟨hwA, hwN⟩, hA, hK, hRO, hROA, hlk, hrt, hfr, hlo, hini⟩ := hX
  have hwd : ∀ (n : Nat) (w : Cond), wat n = some w → gw w = true → w.before args s = true := fun n w h g => mwd hwN h g
  intro H locs ls hP hD hS hn hw hL hs hl
  exact lv_iconst hx hb hd hv (kk H locs ls hP hD hS hn hw hL (wv_cons (fun _ e => by cases e) hs) hl)
theorem o_bipush (hX : mCx X) {n : Int} {v : Int32} (hv : (Int8.ofInt n).toInt32 = v) (hd : decode (mby (mkk X)) pc = .ok (.bipush n, 2)) (kk : mGo X cells slots ad L (.int v :: r) W9 (pc + 2)) : mGo X cells slots ad L r W9 pc := by
  obtain ⟨p, l, e, R, s, m, args, below, meth, c, Q, A, dC, dI, dA, adR, RO, k⟩ := X
  obtain ⟨hx, hb, hml, hown, ⟨hwA, hwN⟩, hA, hK, hRO, hROA, hlk, hrt, hfr, hlo, hini⟩ := hX
  have hwd : ∀ (n : Nat) (w : Cond), wat n = some w → gw w = true → w.before args s = true := fun n w h g => mwd hwN h g
  intro H locs ls hP hD hS hn hw hL hs hl
  exact lv_bipush hx hb hd hv (kk H locs ls hP hD hS hn hw hL (wv_cons (fun _ e => by cases e) hs) hl)
theorem o_sipush (hX : mCx X) {n : Int} {v : Int32} (hv : (Int16.ofInt n).toInt32 = v) (hd : decode (mby (mkk X)) pc = .ok (.sipush n, 3)) (kk : mGo X cells slots ad L (.int v :: r) W9 (pc + 3)) : mGo X cells slots ad L r W9 pc := by
  obtain ⟨p, l, e, R, s, m, args, below, meth, c, Q, A, dC, dI, dA, adR, RO, k⟩ := X
  obtain ⟨hx, hb, hml, hown, ⟨hwA, hwN⟩, hA, hK, hRO, hROA, hlk, hrt, hfr, hlo, hini⟩ := hX
  have hwd : ∀ (n : Nat) (w : Cond), wat n = some w → gw w = true → w.before args s = true := fun n w h g => mwd hwN h g
  intro H locs ls hP hD hS hn hw hL hs hl
  exact lv_sipush hx hb hd hv (kk H locs ls hP hD hS hn hw hL (wv_cons (fun _ e => by cases e) hs) hl)
theorem o_dup (hX : mCx X) {a : Value} (ha : a.category = 1) (hd : decode (mby (mkk X)) pc = .ok (.dup, 1)) (kk : mGo X cells slots ad L (a :: a :: r) W9 (pc + 1)) : mGo X cells slots ad L (a :: r) W9 pc := by
  obtain ⟨p, l, e, R, s, m, args, below, meth, c, Q, A, dC, dI, dA, adR, RO, k⟩ := X
  obtain ⟨hx, hb, hml, hown, ⟨hwA, hwN⟩, hA, hK, hRO, hROA, hlk, hrt, hfr, hlo, hini⟩ := hX
  have hwd : ∀ (n : Nat) (w : Cond), wat n = some w → gw w = true → w.before args s = true := fun n w h g => mwd hwN h g
  intro H locs ls hP hD hS hn hw hL hs hl
  exact lv_dup hx hb hd ((cz_cat _ a).trans ha) (kk H locs ls hP hD hS hn hw hL (wv_cons (hs a List.mem_cons_self) hs) hl)
theorem o_dup_x1 (hX : mCx X) {a b : Value} (ha : a.category = 1) (hb2 : b.category = 1) (hd : decode (mby (mkk X)) pc = .ok (.dup_x1, 1)) (kk : mGo X cells slots ad L (a :: b :: a :: r) W9 (pc + 1)) : mGo X cells slots ad L (a :: b :: r) W9 pc := by
  obtain ⟨p, l, e, R, s, m, args, below, meth, c, Q, A, dC, dI, dA, adR, RO, k⟩ := X
  obtain ⟨hx, hb, hml, hown, ⟨hwA, hwN⟩, hA, hK, hRO, hROA, hlk, hrt, hfr, hlo, hini⟩ := hX
  have hwd : ∀ (n : Nat) (w : Cond), wat n = some w → gw w = true → w.before args s = true := fun n w h g => mwd hwN h g
  intro H locs ls hP hD hS hn hw hL hs hl
  exact lv_dup_x1 hx hb hd ((cz_cat _ a).trans ha) ((cz_cat _ b).trans hb2) (kk H locs ls hP hD hS hn hw hL (wv_cons (hs a List.mem_cons_self) (wv_cons (hs b (List.mem_cons_of_mem _ List.mem_cons_self)) (wv_cons (hs a List.mem_cons_self) (wv_tail (wv_tail hs))))) hl)
theorem o_dup2 (hX : mCx X) {a b : Value} (ha : a.category = 1) (hb2 : b.category = 1) (hd : decode (mby (mkk X)) pc = .ok (.dup2, 1)) (kk : mGo X cells slots ad L (a :: b :: a :: b :: r) W9 (pc + 1)) : mGo X cells slots ad L (a :: b :: r) W9 pc := by
  obtain ⟨p, l, e, R, s, m, args, below, meth, c, Q, A, dC, dI, dA, adR, RO, k⟩ := X
  obtain ⟨hx, hb, hml, hown, ⟨hwA, hwN⟩, hA, hK, hRO, hROA, hlk, hrt, hfr, hlo, hini⟩ := hX
  have hwd : ∀ (n : Nat) (w : Cond), wat n = some w → gw w = true → w.before args s = true := fun n w h g => mwd hwN h g
  intro H locs ls hP hD hS hn hw hL hs hl
  exact lv_dup2_11 hx hb hd ((cz_cat _ a).trans ha) ((cz_cat _ b).trans hb2) (kk H locs ls hP hD hS hn hw hL (wv_cons (hs a List.mem_cons_self) (wv_cons (hs b (List.mem_cons_of_mem _ List.mem_cons_self)) hs)) hl)
theorem o_pop (hX : mCx X) {a : Value} (ha : a.category = 1) (hd : decode (mby (mkk X)) pc = .ok (.pop, 1)) (kk : mGo X cells slots ad L r W9 (pc + 1)) : mGo X cells slots ad L (a :: r) W9 pc := by
  obtain ⟨p, l, e, R, s, m, args, below, meth, c, Q, A, dC, dI, dA, adR, RO, k⟩ := X
  obtain ⟨hx, hb, hml, hown, ⟨hwA, hwN⟩, hA, hK, hRO, hROA, hlk, hrt, hfr, hlo, hini⟩ := hX
  have hwd : ∀ (n : Nat) (w : Cond), wat n = some w → gw w = true → w.before args s = true := fun n w h g => mwd hwN h g
  intro H locs ls hP hD hS hn hw hL hs hl
  exact lv_pop hx hb hd ((cz_cat _ a).trans ha) (kk H locs ls hP hD hS hn hw hL (wv_tail hs) hl)
theorem o_iload (hX : mCx X) {i : Nat} {x : Int32} (hv : L[i]? = some (.int x)) (hd : decode (mby (mkk X)) pc = .ok (.iload i, 2)) (kk : mGo X cells slots ad L (.int x :: r) W9 (pc + 2)) : mGo X cells slots ad L r W9 pc := by
  obtain ⟨p, l, e, R, s, m, args, below, meth, c, Q, A, dC, dI, dA, adR, RO, k⟩ := X
  obtain ⟨hx, hb, hml, hown, ⟨hwA, hwN⟩, hA, hK, hRO, hROA, hlk, hrt, hfr, hlo, hini⟩ := hX
  have hwd : ∀ (n : Nat) (w : Cond), wat n = some w → gw w = true → w.before args s = true := fun n w h g => mwd hwN h g
  intro H locs ls hP hD hS hn hw hL hs hl
  exact lv_iload hx hb hd  (lz_at hl hv rfl) (kk H locs ls hP hD hS hn hw hL (wv_cons (wv_get hL hv) hs) hl)
theorem o_iload_n (hX : mCx X) {j : Fin 4} {i : Nat} {x : Int32} (hi : (j : Nat) = i) (hv : L[i]? = some (.int x)) (hd : decode (mby (mkk X)) pc = .ok (.iload_n j, 1)) (kk : mGo X cells slots ad L (.int x :: r) W9 (pc + 1)) : mGo X cells slots ad L r W9 pc := by
  obtain ⟨p, l, e, R, s, m, args, below, meth, c, Q, A, dC, dI, dA, adR, RO, k⟩ := X
  obtain ⟨hx, hb, hml, hown, ⟨hwA, hwN⟩, hA, hK, hRO, hROA, hlk, hrt, hfr, hlo, hini⟩ := hX
  have hwd : ∀ (n : Nat) (w : Cond), wat n = some w → gw w = true → w.before args s = true := fun n w h g => mwd hwN h g
  intro H locs ls hP hD hS hn hw hL hs hl
  exact lv_iload_n hx hb hd hi (lz_at hl hv rfl) (kk H locs ls hP hD hS hn hw hL (wv_cons (wv_get hL hv) hs) hl)
theorem o_aload (hX : mCx X) {i : Nat} {x : Nat} (hv : L[i]? = some (.ref x)) (hd : decode (mby (mkk X)) pc = .ok (.aload i, 2)) (kk : mGo X cells slots ad L (.ref x :: r) W9 (pc + 2)) : mGo X cells slots ad L r W9 pc := by
  obtain ⟨p, l, e, R, s, m, args, below, meth, c, Q, A, dC, dI, dA, adR, RO, k⟩ := X
  obtain ⟨hx, hb, hml, hown, ⟨hwA, hwN⟩, hA, hK, hRO, hROA, hlk, hrt, hfr, hlo, hini⟩ := hX
  have hwd : ∀ (n : Nat) (w : Cond), wat n = some w → gw w = true → w.before args s = true := fun n w h g => mwd hwN h g
  intro H locs ls hP hD hS hn hw hL hs hl
  exact lv_aload hx hb hd  (lz_at hl hv rfl) (kk H locs ls hP hD hS hn hw hL (wv_cons (wv_get hL hv) hs) hl)
theorem o_aload_n (hX : mCx X) {j : Fin 4} {i : Nat} {x : Nat} (hi : (j : Nat) = i) (hv : L[i]? = some (.ref x)) (hd : decode (mby (mkk X)) pc = .ok (.aload_n j, 1)) (kk : mGo X cells slots ad L (.ref x :: r) W9 (pc + 1)) : mGo X cells slots ad L r W9 pc := by
  obtain ⟨p, l, e, R, s, m, args, below, meth, c, Q, A, dC, dI, dA, adR, RO, k⟩ := X
  obtain ⟨hx, hb, hml, hown, ⟨hwA, hwN⟩, hA, hK, hRO, hROA, hlk, hrt, hfr, hlo, hini⟩ := hX
  have hwd : ∀ (n : Nat) (w : Cond), wat n = some w → gw w = true → w.before args s = true := fun n w h g => mwd hwN h g
  intro H locs ls hP hD hS hn hw hL hs hl
  exact lv_aload_n hx hb hd hi (lz_at hl hv rfl) (kk H locs ls hP hD hS hn hw hL (wv_cons (wv_get hL hv) hs) hl)
theorem o_fload (hX : mCx X) {i : Nat} {x : UInt32} (hv : L[i]? = some (.float x)) (hd : decode (mby (mkk X)) pc = .ok (.fload i, 2)) (kk : mGo X cells slots ad L (.float x :: r) W9 (pc + 2)) : mGo X cells slots ad L r W9 pc := by
  obtain ⟨p, l, e, R, s, m, args, below, meth, c, Q, A, dC, dI, dA, adR, RO, k⟩ := X
  obtain ⟨hx, hb, hml, hown, ⟨hwA, hwN⟩, hA, hK, hRO, hROA, hlk, hrt, hfr, hlo, hini⟩ := hX
  have hwd : ∀ (n : Nat) (w : Cond), wat n = some w → gw w = true → w.before args s = true := fun n w h g => mwd hwN h g
  intro H locs ls hP hD hS hn hw hL hs hl
  exact lv_fload hx hb hd  (lz_at hl hv rfl) (kk H locs ls hP hD hS hn hw hL (wv_cons (wv_get hL hv) hs) hl)
theorem o_fload_n (hX : mCx X) {j : Fin 4} {i : Nat} {x : UInt32} (hi : (j : Nat) = i) (hv : L[i]? = some (.float x)) (hd : decode (mby (mkk X)) pc = .ok (.fload_n j, 1)) (kk : mGo X cells slots ad L (.float x :: r) W9 (pc + 1)) : mGo X cells slots ad L r W9 pc := by
  obtain ⟨p, l, e, R, s, m, args, below, meth, c, Q, A, dC, dI, dA, adR, RO, k⟩ := X
  obtain ⟨hx, hb, hml, hown, ⟨hwA, hwN⟩, hA, hK, hRO, hROA, hlk, hrt, hfr, hlo, hini⟩ := hX
  have hwd : ∀ (n : Nat) (w : Cond), wat n = some w → gw w = true → w.before args s = true := fun n w h g => mwd hwN h g
  intro H locs ls hP hD hS hn hw hL hs hl
  exact lv_fload_n hx hb hd hi (lz_at hl hv rfl) (kk H locs ls hP hD hS hn hw hL (wv_cons (wv_get hL hv) hs) hl)
theorem o_dload (hX : mCx X) {i : Nat} {x : UInt64} (hv : L[i]? = some (.double x)) (hd : decode (mby (mkk X)) pc = .ok (.dload i, 2)) (kk : mGo X cells slots ad L (.double x :: r) W9 (pc + 2)) : mGo X cells slots ad L r W9 pc := by
  obtain ⟨p, l, e, R, s, m, args, below, meth, c, Q, A, dC, dI, dA, adR, RO, k⟩ := X
  obtain ⟨hx, hb, hml, hown, ⟨hwA, hwN⟩, hA, hK, hRO, hROA, hlk, hrt, hfr, hlo, hini⟩ := hX
  have hwd : ∀ (n : Nat) (w : Cond), wat n = some w → gw w = true → w.before args s = true := fun n w h g => mwd hwN h g
  intro H locs ls hP hD hS hn hw hL hs hl
  exact lv_dload hx hb hd  (lz_at hl hv rfl) (kk H locs ls hP hD hS hn hw hL (wv_cons (wv_get hL hv) hs) hl)
theorem o_dload_n (hX : mCx X) {j : Fin 4} {i : Nat} {x : UInt64} (hi : (j : Nat) = i) (hv : L[i]? = some (.double x)) (hd : decode (mby (mkk X)) pc = .ok (.dload_n j, 1)) (kk : mGo X cells slots ad L (.double x :: r) W9 (pc + 1)) : mGo X cells slots ad L r W9 pc := by
  obtain ⟨p, l, e, R, s, m, args, below, meth, c, Q, A, dC, dI, dA, adR, RO, k⟩ := X
  obtain ⟨hx, hb, hml, hown, ⟨hwA, hwN⟩, hA, hK, hRO, hROA, hlk, hrt, hfr, hlo, hini⟩ := hX
  have hwd : ∀ (n : Nat) (w : Cond), wat n = some w → gw w = true → w.before args s = true := fun n w h g => mwd hwN h g
  intro H locs ls hP hD hS hn hw hL hs hl
  exact lv_dload_n hx hb hd hi (lz_at hl hv rfl) (kk H locs ls hP hD hS hn hw hL (wv_cons (wv_get hL hv) hs) hl)
theorem o_lload (hX : mCx X) {i : Nat} {x : Int64} (hv : L[i]? = some (.long x)) (hd : decode (mby (mkk X)) pc = .ok (.lload i, 2)) (kk : mGo X cells slots ad L (.long x :: r) W9 (pc + 2)) : mGo X cells slots ad L r W9 pc := by
  obtain ⟨p, l, e, R, s, m, args, below, meth, c, Q, A, dC, dI, dA, adR, RO, k⟩ := X
  obtain ⟨hx, hb, hml, hown, ⟨hwA, hwN⟩, hA, hK, hRO, hROA, hlk, hrt, hfr, hlo, hini⟩ := hX
  have hwd : ∀ (n : Nat) (w : Cond), wat n = some w → gw w = true → w.before args s = true := fun n w h g => mwd hwN h g
  intro H locs ls hP hD hS hn hw hL hs hl
  exact lv_lload hx hb hd  (lz_at hl hv rfl) (kk H locs ls hP hD hS hn hw hL (wv_cons (wv_get hL hv) hs) hl)
theorem o_lload_n (hX : mCx X) {j : Fin 4} {i : Nat} {x : Int64} (hi : (j : Nat) = i) (hv : L[i]? = some (.long x)) (hd : decode (mby (mkk X)) pc = .ok (.lload_n j, 1)) (kk : mGo X cells slots ad L (.long x :: r) W9 (pc + 1)) : mGo X cells slots ad L r W9 pc := by
  obtain ⟨p, l, e, R, s, m, args, below, meth, c, Q, A, dC, dI, dA, adR, RO, k⟩ := X
  obtain ⟨hx, hb, hml, hown, ⟨hwA, hwN⟩, hA, hK, hRO, hROA, hlk, hrt, hfr, hlo, hini⟩ := hX
  have hwd : ∀ (n : Nat) (w : Cond), wat n = some w → gw w = true → w.before args s = true := fun n w h g => mwd hwN h g
  intro H locs ls hP hD hS hn hw hL hs hl
  exact lv_lload_n hx hb hd hi (lz_at hl hv rfl) (kk H locs ls hP hD hS hn hw hL (wv_cons (wv_get hL hv) hs) hl)
theorem o_istore (hX : mCx X) {i : Nat} {x : Int32} (hp : okp L i = true) (hm : i < mml (mkk X)) (hd : decode (mby (mkk X)) pc = .ok (.istore i, 2)) (kk : mGo X cells slots ad (L.set i (.int x)) r W9 (pc + 2)) : mGo X cells slots ad L (.int x :: r) W9 pc := by
  obtain ⟨p, l, e, R, s, m, args, below, meth, c, Q, A, dC, dI, dA, adR, RO, k⟩ := X
  obtain ⟨hx, hb, hml, hown, ⟨hwA, hwN⟩, hA, hK, hRO, hROA, hlk, hrt, hfr, hlo, hini⟩ := hX
  have hwd : ∀ (n : Nat) (w : Cond), wat n = some w → gw w = true → w.before args s = true := fun n w h g => mwd hwN h g
  intro H locs ls hP hD hS hn hw hL hs hl
  exact lv_istore hx hb hd  (lz_has hl) hm rfl (fun ls' h' => kk H locs ls' hP hD hS hn hw (wv_set (hs _ List.mem_cons_self) hL) (wv_tail hs) (lz_set (v := .int x) hl hp rfl h'))
theorem o_istore_n (hX : mCx X) {j : Fin 4} {i : Nat} {x : Int32} (hi : (j : Nat) = i) (hp : okp L i = true) (hm : i < mml (mkk X)) (hd : decode (mby (mkk X)) pc = .ok (.istore_n j, 1)) (kk : mGo X cells slots ad (L.set i (.int x)) r W9 (pc + 1)) : mGo X cells slots ad L (.int x :: r) W9 pc := by
  obtain ⟨p, l, e, R, s, m, args, below, meth, c, Q, A, dC, dI, dA, adR, RO, k⟩ := X
  obtain ⟨hx, hb, hml, hown, ⟨hwA, hwN⟩, hA, hK, hRO, hROA, hlk, hrt, hfr, hlo, hini⟩ := hX
  have hwd : ∀ (n : Nat) (w : Cond), wat n = some w → gw w = true → w.before args s = true := fun n w h g => mwd hwN h g
  intro H locs ls hP hD hS hn hw hL hs hl
  exact lv_istore_n hx hb hd hi (lz_has hl) hm rfl (fun ls' h' => kk H locs ls' hP hD hS hn hw (wv_set (hs _ List.mem_cons_self) hL) (wv_tail hs) (lz_set (v := .int x) hl hp rfl h'))
theorem o_astore (hX : mCx X) {i : Nat} {x : Nat} (hp : okp L i = true) (hm : i < mml (mkk X)) (hd : decode (mby (mkk X)) pc = .ok (.astore i, 2)) (kk : mGo X cells slots ad (L.set i (.ref x)) r W9 (pc + 2)) : mGo X cells slots ad L (.ref x :: r) W9 pc := by
  obtain ⟨p, l, e, R, s, m, args, below, meth, c, Q, A, dC, dI, dA, adR, RO, k⟩ := X
  obtain ⟨hx, hb, hml, hown, ⟨hwA, hwN⟩, hA, hK, hRO, hROA, hlk, hrt, hfr, hlo, hini⟩ := hX
  have hwd : ∀ (n : Nat) (w : Cond), wat n = some w → gw w = true → w.before args s = true := fun n w h g => mwd hwN h g
  intro H locs ls hP hD hS hn hw hL hs hl
  exact lv_astore hx hb hd  (lz_has hl) hm rfl (fun ls' h' => kk H locs ls' hP hD hS hn hw (wv_set (hs _ List.mem_cons_self) hL) (wv_tail hs) (lz_set (v := .ref x) hl hp rfl h'))
theorem o_astore_n (hX : mCx X) {j : Fin 4} {i : Nat} {x : Nat} (hi : (j : Nat) = i) (hp : okp L i = true) (hm : i < mml (mkk X)) (hd : decode (mby (mkk X)) pc = .ok (.astore_n j, 1)) (kk : mGo X cells slots ad (L.set i (.ref x)) r W9 (pc + 1)) : mGo X cells slots ad L (.ref x :: r) W9 pc := by
  obtain ⟨p, l, e, R, s, m, args, below, meth, c, Q, A, dC, dI, dA, adR, RO, k⟩ := X
  obtain ⟨hx, hb, hml, hown, ⟨hwA, hwN⟩, hA, hK, hRO, hROA, hlk, hrt, hfr, hlo, hini⟩ := hX
  have hwd : ∀ (n : Nat) (w : Cond), wat n = some w → gw w = true → w.before args s = true := fun n w h g => mwd hwN h g
  intro H locs ls hP hD hS hn hw hL hs hl
  exact lv_astore_n hx hb hd hi (lz_has hl) hm rfl (fun ls' h' => kk H locs ls' hP hD hS hn hw (wv_set (hs _ List.mem_cons_self) hL) (wv_tail hs) (lz_set (v := .ref x) hl hp rfl h'))
theorem o_fstore (hX : mCx X) {i : Nat} {x : UInt32} (hp : okp L i = true) (hm : i < mml (mkk X)) (hd : decode (mby (mkk X)) pc = .ok (.fstore i, 2)) (kk : mGo X cells slots ad (L.set i (.float x)) r W9 (pc + 2)) : mGo X cells slots ad L (.float x :: r) W9 pc := by
  obtain ⟨p, l, e, R, s, m, args, below, meth, c, Q, A, dC, dI, dA, adR, RO, k⟩ := X
  obtain ⟨hx, hb, hml, hown, ⟨hwA, hwN⟩, hA, hK, hRO, hROA, hlk, hrt, hfr, hlo, hini⟩ := hX
  have hwd : ∀ (n : Nat) (w : Cond), wat n = some w → gw w = true → w.before args s = true := fun n w h g => mwd hwN h g
  intro H locs ls hP hD hS hn hw hL hs hl
  exact lv_fstore hx hb hd  (lz_has hl) hm rfl (fun ls' h' => kk H locs ls' hP hD hS hn hw (wv_set (hs _ List.mem_cons_self) hL) (wv_tail hs) (lz_set (v := .float x) hl hp rfl h'))
theorem o_fstore_n (hX : mCx X) {j : Fin 4} {i : Nat} {x : UInt32} (hi : (j : Nat) = i) (hp : okp L i = true) (hm : i < mml (mkk X)) (hd : decode (mby (mkk X)) pc = .ok (.fstore_n j, 1)) (kk : mGo X cells slots ad (L.set i (.float x)) r W9 (pc + 1)) : mGo X cells slots ad L (.float x :: r) W9 pc := by
  obtain ⟨p, l, e, R, s, m, args, below, meth, c, Q, A, dC, dI, dA, adR, RO, k⟩ := X
  obtain ⟨hx, hb, hml, hown, ⟨hwA, hwN⟩, hA, hK, hRO, hROA, hlk, hrt, hfr, hlo, hini⟩ := hX
  have hwd : ∀ (n : Nat) (w : Cond), wat n = some w → gw w = true → w.before args s = true := fun n w h g => mwd hwN h g
  intro H locs ls hP hD hS hn hw hL hs hl
  exact lv_fstore_n hx hb hd hi (lz_has hl) hm rfl (fun ls' h' => kk H locs ls' hP hD hS hn hw (wv_set (hs _ List.mem_cons_self) hL) (wv_tail hs) (lz_set (v := .float x) hl hp rfl h'))
theorem o_dstore (hX : mCx X) {i : Nat} {x : UInt64} (hp : okp L i = true) (hm : i + 1 < mml (mkk X)) (hd : decode (mby (mkk X)) pc = .ok (.dstore i, 2)) (kk : mGo X cells slots ad ((L.set i (.double x)).set (i + 1) (.retAddr 0)) r W9 (pc + 2)) : mGo X cells slots ad L (.double x :: r) W9 pc := by
  obtain ⟨p, l, e, R, s, m, args, below, meth, c, Q, A, dC, dI, dA, adR, RO, k⟩ := X
  obtain ⟨hx, hb, hml, hown, ⟨hwA, hwN⟩, hA, hK, hRO, hROA, hlk, hrt, hfr, hlo, hini⟩ := hX
  have hwd : ∀ (n : Nat) (w : Cond), wat n = some w → gw w = true → w.before args s = true := fun n w h g => mwd hwN h g
  intro H locs ls hP hD hS hn hw hL hs hl
  exact lv_dstore hx hb hd  (lz_has hl) hm rfl (fun ls' h' => kk H locs ls' hP hD hS hn hw (wv_set (fun _ e => by cases e) (wv_set (hs _ List.mem_cons_self) hL)) (wv_tail hs) (lz_set2 (v := .double x) hl hp h'))
theorem o_dstore_n (hX : mCx X) {j : Fin 4} {i : Nat} {x : UInt64} (hi : (j : Nat) = i) (hp : okp L i = true) (hm : i + 1 < mml (mkk X)) (hd : decode (mby (mkk X)) pc = .ok (.dstore_n j, 1)) (kk : mGo X cells slots ad ((L.set i (.double x)).set (i + 1) (.retAddr 0)) r W9 (pc + 1)) : mGo X cells slots ad L (.double x :: r) W9 pc := by
  obtain ⟨p, l, e, R, s, m, args, below, meth, c, Q, A, dC, dI, dA, adR, RO, k⟩ := X
  obtain ⟨hx, hb, hml, hown, ⟨hwA, hwN⟩, hA, hK, hRO, hROA, hlk, hrt, hfr, hlo, hini⟩ := hX
  have hwd : ∀ (n : Nat) (w : Cond), wat n = some w → gw w = true → w.before args s = true := fun n w h g => mwd hwN h g
  intro H locs ls hP hD hS hn hw hL hs hl
  exact lv_dstore_n hx hb hd hi (lz_has hl) hm rfl (fun ls' h' => kk H locs ls' hP hD hS hn hw (wv_set (fun _ e => by cases e) (wv_set (hs _ List.mem_cons_self) hL)) (wv_tail hs) (lz_set2 (v := .double x) hl hp h'))
theorem o_lstore (hX : mCx X) {i : Nat} {x : Int64} (hp : okp L i = true) (hm : i + 1 < mml (mkk X)) (hd : decode (mby (mkk X)) pc = .ok (.lstore i, 2)) (kk : mGo X cells slots ad ((L.set i (.long x)).set (i + 1) (.retAddr 0)) r W9 (pc + 2)) : mGo X cells slots ad L (.long x :: r) W9 pc := by
  obtain ⟨p, l, e, R, s, m, args, below, meth, c, Q, A, dC, dI, dA, adR, RO, k⟩ := X
  obtain ⟨hx, hb, hml, hown, ⟨hwA, hwN⟩, hA, hK, hRO, hROA, hlk, hrt, hfr, hlo, hini⟩ := hX
  have hwd : ∀ (n : Nat) (w : Cond), wat n = some w → gw w = true → w.before args s = true := fun n w h g => mwd hwN h g
  intro H locs ls hP hD hS hn hw hL hs hl
  exact lv_lstore hx hb hd  (lz_has hl) hm rfl (fun ls' h' => kk H locs ls' hP hD hS hn hw (wv_set (fun _ e => by cases e) (wv_set (hs _ List.mem_cons_self) hL)) (wv_tail hs) (lz_set2 (v := .long x) hl hp h'))
theorem o_lstore_n (hX : mCx X) {j : Fin 4} {i : Nat} {x : Int64} (hi : (j : Nat) = i) (hp : okp L i = true) (hm : i + 1 < mml (mkk X)) (hd : decode (mby (mkk X)) pc = .ok (.lstore_n j, 1)) (kk : mGo X cells slots ad ((L.set i (.long x)).set (i + 1) (.retAddr 0)) r W9 (pc + 1)) : mGo X cells slots ad L (.long x :: r) W9 pc := by
  obtain ⟨p, l, e, R, s, m, args, below, meth, c, Q, A, dC, dI, dA, adR, RO, k⟩ := X
  obtain ⟨hx, hb, hml, hown, ⟨hwA, hwN⟩, hA, hK, hRO, hROA, hlk, hrt, hfr, hlo, hini⟩ := hX
  have hwd : ∀ (n : Nat) (w : Cond), wat n = some w → gw w = true → w.before args s = true := fun n w h g => mwd hwN h g
  intro H locs ls hP hD hS hn hw hL hs hl
  exact lv_lstore_n hx hb hd hi (lz_has hl) hm rfl (fun ls' h' => kk H locs ls' hP hD hS hn hw (wv_set (fun _ e => by cases e) (wv_set (hs _ List.mem_cons_self) hL)) (wv_tail hs) (lz_set2 (v := .long x) hl hp h'))
theorem o_ixor (hX : mCx X) {x y : Int32} (hd : decode (mby (mkk X)) pc = .ok (.ixor, 1)) (kk : mGo X cells slots ad L (.int (x ^^^ y) :: r) W9 (pc + 1)) : mGo X cells slots ad L (.int y :: .int x :: r) W9 pc := by
  obtain ⟨p, l, e, R, s, m, args, below, meth, c, Q, A, dC, dI, dA, adR, RO, k⟩ := X
  obtain ⟨hx, hb, hml, hown, ⟨hwA, hwN⟩, hA, hK, hRO, hROA, hlk, hrt, hfr, hlo, hini⟩ := hX
  have hwd : ∀ (n : Nat) (w : Cond), wat n = some w → gw w = true → w.before args s = true := fun n w h g => mwd hwN h g
  intro H locs ls hP hD hS hn hw hL hs hl
  exact lv_ixor hx hb hd  (kk H locs ls hP hD hS hn hw hL (wv_int (wv_tail (wv_tail hs))) hl)
theorem o_ladd (hX : mCx X) {x y : Int64} (hd : decode (mby (mkk X)) pc = .ok (.ladd, 1)) (kk : mGo X cells slots ad L (.long (x + y) :: r) W9 (pc + 1)) : mGo X cells slots ad L (.long y :: .long x :: r) W9 pc := by
  obtain ⟨p, l, e, R, s, m, args, below, meth, c, Q, A, dC, dI, dA, adR, RO, k⟩ := X
  obtain ⟨hx, hb, hml, hown, ⟨hwA, hwN⟩, hA, hK, hRO, hROA, hlk, hrt, hfr, hlo, hini⟩ := hX
  have hwd : ∀ (n : Nat) (w : Cond), wat n = some w → gw w = true → w.before args s = true := fun n w h g => mwd hwN h g
  intro H locs ls hP hD hS hn hw hL hs hl
  exact lv_ladd hx hb hd  (kk H locs ls hP hD hS hn hw hL (wv_cons (fun _ e => by cases e) (wv_tail (wv_tail hs))) hl)
theorem o_lmul (hX : mCx X) {x y : Int64} (hd : decode (mby (mkk X)) pc = .ok (.lmul, 1)) (kk : mGo X cells slots ad L (.long (x * y) :: r) W9 (pc + 1)) : mGo X cells slots ad L (.long y :: .long x :: r) W9 pc := by
  obtain ⟨p, l, e, R, s, m, args, below, meth, c, Q, A, dC, dI, dA, adR, RO, k⟩ := X
  obtain ⟨hx, hb, hml, hown, ⟨hwA, hwN⟩, hA, hK, hRO, hROA, hlk, hrt, hfr, hlo, hini⟩ := hX
  have hwd : ∀ (n : Nat) (w : Cond), wat n = some w → gw w = true → w.before args s = true := fun n w h g => mwd hwN h g
  intro H locs ls hP hD hS hn hw hL hs hl
  exact lv_lmul hx hb hd  (kk H locs ls hP hD hS hn hw hL (wv_cons (fun _ e => by cases e) (wv_tail (wv_tail hs))) hl)
theorem o_iinc (hX : mCx X) {i : Nat} {n : Int} {x v : Int32} (hv : L[i]? = some (.int x)) (hc : Int32.ofInt n = v) (hp : okp L i = true) (hm : i < mml (mkk X)) (hd : decode (mby (mkk X)) pc = .ok (.iinc i n, 3)) (kk : mGo X cells slots ad (L.set i (.int (x + v))) r W9 (pc + 3)) : mGo X cells slots ad L r W9 pc := by
  obtain ⟨p, l, e, R, s, m, args, below, meth, c, Q, A, dC, dI, dA, adR, RO, k⟩ := X
  obtain ⟨hx, hb, hml, hown, ⟨hwA, hwN⟩, hA, hK, hRO, hROA, hlk, hrt, hfr, hlo, hini⟩ := hX
  have hwd : ∀ (n : Nat) (w : Cond), wat n = some w → gw w = true → w.before args s = true := fun n w h g => mwd hwN h g
  intro H locs ls hP hD hS hn hw hL hs hl
  obtain ⟨j, hj⟩ := List.getElem?_of_mem ((lqq_mem (mz adR ad) L 0 (i, .int x)).mpr ⟨i, .int x, hv, rfl, by simp [cz]⟩)
  exact lv_iinc hx hb hd (lz_has hl) hj (by rw [hc]) hm rfl (fun ls' h' => kk H locs ls' hP hD hS hn hw (wv_set (fun _ e => by cases e) hL) hs (lz_set (v := .int (x + v)) hl hp rfl h'))
theorem o_if_eq (hX : mCx X) {x : Int32} {off : Int} {t : Nat} (ht : (pc : Int) + off = (t : Int)) (hd : decode (mby (mkk X)) pc = .ok (.ifCond .eq off, 3)) (kt : (x = 0) → mGo X cells slots ad L r W9 t) (kf : ¬ (x = 0) → mGo X cells slots ad L r W9 (pc + 3)) : mGo X cells slots ad L (.int x :: r) W9 pc := by
  obtain ⟨p, l, e, R, s, m, args, below, meth, c, Q, A, dC, dI, dA, adR, RO, k⟩ := X
  obtain ⟨hx, hb, hml, hown, ⟨hwA, hwN⟩, hA, hK, hRO, hROA, hlk, hrt, hfr, hlo, hini⟩ := hX
  have hwd : ∀ (n : Nat) (w : Cond), wat n = some w → gw w = true → w.before args s = true := fun n w h g => mwd hwN h g
  intro H locs ls hP hD hS hn hw hL hs hl
  exact lv_if_eq hx hb hd ht (fun h9 => kt h9 H locs ls hP hD hS hn hw hL (wv_tail hs) hl) (fun h9 => kf h9 H locs ls hP hD hS hn hw hL (wv_tail hs) hl)
theorem o_if_lt (hX : mCx X) {x : Int32} {off : Int} {t : Nat} (ht : (pc : Int) + off = (t : Int)) (hd : decode (mby (mkk X)) pc = .ok (.ifCond .lt off, 3)) (kt : (x < 0) → mGo X cells slots ad L r W9 t) (kf : ¬ (x < 0) → mGo X cells slots ad L r W9 (pc + 3)) : mGo X cells slots ad L (.int x :: r) W9 pc := by
  obtain ⟨p, l, e, R, s, m, args, below, meth, c, Q, A, dC, dI, dA, adR, RO, k⟩ := X
  obtain ⟨hx, hb, hml, hown, ⟨hwA, hwN⟩, hA, hK, hRO, hROA, hlk, hrt, hfr, hlo, hini⟩ := hX
  have hwd : ∀ (n : Nat) (w : Cond), wat n = some w → gw w = true → w.before args s = true := fun n w h g => mwd hwN h g
  intro H locs ls hP hD hS hn hw hL hs hl
  exact lv_if_lt hx hb hd ht (fun h9 => kt h9 H locs ls hP hD hS hn hw hL (wv_tail hs) hl) (fun h9 => kf h9 H locs ls hP hD hS hn hw hL (wv_tail hs) hl)
theorem o_if_gt (hX : mCx X) {x : Int32} {off : Int} {t : Nat} (ht : (pc : Int) + off = (t : Int)) (hd : decode (mby (mkk X)) pc = .ok (.ifCond .gt off, 3)) (kt : (0 < x) → mGo X cells slots ad L r W9 t) (kf : ¬ (0 < x) → mGo X cells slots ad L r W9 (pc + 3)) : mGo X cells slots ad L (.int x :: r) W9 pc := by
  obtain ⟨p, l, e, R, s, m, args, below, meth, c, Q, A, dC, dI, dA, adR, RO, k⟩ := X
  obtain ⟨hx, hb, hml, hown, ⟨hwA, hwN⟩, hA, hK, hRO, hROA, hlk, hrt, hfr, hlo, hini⟩ := hX
  have hwd : ∀ (n : Nat) (w : Cond), wat n = some w → gw w = true → w.before args s = true := fun n w h g => mwd hwN h g
  intro H locs ls hP hD hS hn hw hL hs hl
  exact lv_if_gt hx hb hd ht (fun h9 => kt h9 H locs ls hP hD hS hn hw hL (wv_tail hs) hl) (fun h9 => kf h9 H locs ls hP hD hS hn hw hL (wv_tail hs) hl)
theorem o_if_le (hX : mCx X) {x : Int32} {off : Int} {t : Nat} (ht : (pc : Int) + off = (t : Int)) (hd : decode (mby (mkk X)) pc = .ok (.ifCond .le off, 3)) (kt : (x ≤ 0) → mGo X cells slots ad L r W9 t) (kf : ¬ (x ≤ 0) → mGo X cells slots ad L r W9 (pc + 3)) : mGo X cells slots ad L (.int x :: r) W9 pc := by
  obtain ⟨p, l, e, R, s, m, args, below, meth, c, Q, A, dC, dI, dA, adR, RO, k⟩ := X
  obtain ⟨hx, hb, hml, hown, ⟨hwA, hwN⟩, hA, hK, hRO, hROA, hlk, hrt, hfr, hlo, hini⟩ := hX
  have hwd : ∀ (n : Nat) (w : Cond), wat n = some w → gw w = true → w.before args s = true := fun n w h g => mwd hwN h g
  intro H locs ls hP hD hS hn hw hL hs hl
  exact lv_if_le hx hb hd ht (fun h9 => kt h9 H locs ls hP hD hS hn hw hL (wv_tail hs) hl) (fun h9 => kf h9 H locs ls hP hD hS hn hw hL (wv_tail hs) hl)
theorem o_icmp_eq (hX : mCx X) {x y : Int32} {off : Int} {t : Nat} (ht : (pc : Int) + off = (t : Int)) (hd : decode (mby (mkk X)) pc = .ok (.if_icmp .eq off, 3)) (kt : (x = y) → mGo X cells slots ad L r W9 t) (kf : ¬ (x = y) → mGo X cells slots ad L r W9 (pc + 3)) : mGo X cells slots ad L (.int y :: .int x :: r) W9 pc := by
  obtain ⟨p, l, e, R, s, m, args, below, meth, c, Q, A, dC, dI, dA, adR, RO, k⟩ := X
  obtain ⟨hx, hb, hml, hown, ⟨hwA, hwN⟩, hA, hK, hRO, hROA, hlk, hrt, hfr, hlo, hini⟩ := hX
  have hwd : ∀ (n : Nat) (w : Cond), wat n = some w → gw w = true → w.before args s = true := fun n w h g => mwd hwN h g
  intro H locs ls hP hD hS hn hw hL hs hl
  exact lv_icmp_eq hx hb hd ht (fun h9 => kt h9 H locs ls hP hD hS hn hw hL (wv_tail (wv_tail hs)) hl) (fun h9 => kf h9 H locs ls hP hD hS hn hw hL (wv_tail (wv_tail hs)) hl)
theorem o_icmp_lt (hX : mCx X) {x y : Int32} {off : Int} {t : Nat} (ht : (pc : Int) + off = (t : Int)) (hd : decode (mby (mkk X)) pc = .ok (.if_icmp .lt off, 3)) (kt : (x < y) → mGo X cells slots ad L r W9 t) (kf : ¬ (x < y) → mGo X cells slots ad L r W9 (pc + 3)) : mGo X cells slots ad L (.int y :: .int x :: r) W9 pc := by
  obtain ⟨p, l, e, R, s, m, args, below, meth, c, Q, A, dC, dI, dA, adR, RO, k⟩ := X
  obtain ⟨hx, hb, hml, hown, ⟨hwA, hwN⟩, hA, hK, hRO, hROA, hlk, hrt, hfr, hlo, hini⟩ := hX
  have hwd : ∀ (n : Nat) (w : Cond), wat n = some w → gw w = true → w.before args s = true := fun n w h g => mwd hwN h g
  intro H locs ls hP hD hS hn hw hL hs hl
  exact lv_icmp_lt hx hb hd ht (fun h9 => kt h9 H locs ls hP hD hS hn hw hL (wv_tail (wv_tail hs)) hl) (fun h9 => kf h9 H locs ls hP hD hS hn hw hL (wv_tail (wv_tail hs)) hl)
theorem o_icmp_gt (hX : mCx X) {x y : Int32} {off : Int} {t : Nat} (ht : (pc : Int) + off = (t : Int)) (hd : decode (mby (mkk X)) pc = .ok (.if_icmp .gt off, 3)) (kt : (y < x) → mGo X cells slots ad L r W9 t) (kf : ¬ (y < x) → mGo X cells slots ad L r W9 (pc + 3)) : mGo X cells slots ad L (.int y :: .int x :: r) W9 pc := by
  obtain ⟨p, l, e, R, s, m, args, below, meth, c, Q, A, dC, dI, dA, adR, RO, k⟩ := X
  obtain ⟨hx, hb, hml, hown, ⟨hwA, hwN⟩, hA, hK, hRO, hROA, hlk, hrt, hfr, hlo, hini⟩ := hX
  have hwd : ∀ (n : Nat) (w : Cond), wat n = some w → gw w = true → w.before args s = true := fun n w h g => mwd hwN h g
  intro H locs ls hP hD hS hn hw hL hs hl
  exact lv_icmp_gt hx hb hd ht (fun h9 => kt h9 H locs ls hP hD hS hn hw hL (wv_tail (wv_tail hs)) hl) (fun h9 => kf h9 H locs ls hP hD hS hn hw hL (wv_tail (wv_tail hs)) hl)
theorem o_icmp_le (hX : mCx X) {x y : Int32} {off : Int} {t : Nat} (ht : (pc : Int) + off = (t : Int)) (hd : decode (mby (mkk X)) pc = .ok (.if_icmp .le off, 3)) (kt : (x ≤ y) → mGo X cells slots ad L r W9 t) (kf : ¬ (x ≤ y) → mGo X cells slots ad L r W9 (pc + 3)) : mGo X cells slots ad L (.int y :: .int x :: r) W9 pc := by
  obtain ⟨p, l, e, R, s, m, args, below, meth, c, Q, A, dC, dI, dA, adR, RO, k⟩ := X
  obtain ⟨hx, hb, hml, hown, ⟨hwA, hwN⟩, hA, hK, hRO, hROA, hlk, hrt, hfr, hlo, hini⟩ := hX
  have hwd : ∀ (n : Nat) (w : Cond), wat n = some w → gw w = true → w.before args s = true := fun n w h g => mwd hwN h g
  intro H locs ls hP hD hS hn hw hL hs hl
  exact lv_icmp_le hx hb hd ht (fun h9 => kt h9 H locs ls hP hD hS hn hw hL (wv_tail (wv_tail hs)) hl) (fun h9 => kf h9 H locs ls hP hD hS hn hw hL (wv_tail (wv_tail hs)) hl)
theorem o_goto (hX : mCx X) {off : Int} {t : Nat} (ht : (pc : Int) + off = (t : Int)) (hd : decode (mby (mkk X)) pc = .ok (.goto off, 3)) (kk : mGo X cells slots ad L r W9 t) : mGo X cells slots ad L r W9 pc := by
  obtain ⟨p, l, e, R, s, m, args, below, meth, c, Q, A, dC, dI, dA, adR, RO, k⟩ := X
  obtain ⟨hx, hb, hml, hown, ⟨hwA, hwN⟩, hA, hK, hRO, hROA, hlk, hrt, hfr, hlo, hini⟩ := hX
  have hwd : ∀ (n : Nat) (w : Cond), wat n = some w → gw w = true → w.before args s = true := fun n w h g => mwd hwN h g
  intro H locs ls hP hD hS hn hw hL hs hl
  exact lv_goto hx hb hd ht (kk H locs ls hP hD hS hn hw hL hs hl)
theorem o_idiv (hX : mCx X) {x y : Int32} (hy : ¬ y = 0) (hd : decode (mby (mkk X)) pc = .ok (.idiv, 1)) (kk : mGo X cells slots ad L (.int (x / y) :: r) W9 (pc + 1)) : mGo X cells slots ad L (.int y :: .int x :: r) W9 pc := by
  obtain ⟨p, l, e, R, s, m, args, below, meth, c, Q, A, dC, dI, dA, adR, RO, k⟩ := X
  obtain ⟨hx, hb, hml, hown, ⟨hwA, hwN⟩, hA, hK, hRO, hROA, hlk, hrt, hfr, hlo, hini⟩ := hX
  have hwd : ∀ (n : Nat) (w : Cond), wat n = some w → gw w = true → w.before args s = true := fun n w h g => mwd hwN h g
  intro H locs ls hP hD hS hn hw hL hs hl
  exact lv_idiv hx hb hd hy (kk H locs ls hP hD hS hn hw hL (wv_int (wv_tail (wv_tail hs))) hl)
theorem o_irem (hX : mCx X) {x y : Int32} (hy : ¬ y = 0) (hd : decode (mby (mkk X)) pc = .ok (.irem, 1)) (kk : mGo X cells slots ad L (.int (x - x / y * y) :: r) W9 (pc + 1)) : mGo X cells slots ad L (.int y :: .int x :: r) W9 pc := by
  obtain ⟨p, l, e, R, s, m, args, below, meth, c, Q, A, dC, dI, dA, adR, RO, k⟩ := X
  obtain ⟨hx, hb, hml, hown, ⟨hwA, hwN⟩, hA, hK, hRO, hROA, hlk, hrt, hfr, hlo, hini⟩ := hX
  have hwd : ∀ (n : Nat) (w : Cond), wat n = some w → gw w = true → w.before args s = true := fun n w h g => mwd hwN h g
  intro H locs ls hP hD hS hn hw hL hs hl
  exact lv_irem hx hb hd hy (kk H locs ls hP hD hS hn hw hL (wv_int (wv_tail (wv_tail hs))) hl)
theorem o_fdiv (hX : mCx X) {x y : UInt32} (hy : vf_n32 (FP.fdiv x y)) (hd : decode (mby (mkk X)) pc = .ok (.fdiv, 1)) (kk : mGo X cells slots ad L (.float (FP.fdiv x y) :: r) W9 (pc + 1)) : mGo X cells slots ad L (.float y :: .float x :: r) W9 pc := by
  obtain ⟨p, l, e, R, s, m, args, below, meth, c, Q, A, dC, dI, dA, adR, RO, k⟩ := X
  obtain ⟨hx, hb, hml, hown, ⟨hwA, hwN⟩, hA, hK, hRO, hROA, hlk, hrt, hfr, hlo, hini⟩ := hX
  have hwd : ∀ (n : Nat) (w : Cond), wat n = some w → gw w = true → w.before args s = true := fun n w h g => mwd hwN h g
  intro H locs ls hP hD hS hn hw hL hs hl
  exact lv_fdiv hx hb hd hy (kk H locs ls hP hD hS hn hw hL (wv_cons (fun _ e => by cases e) (wv_tail (wv_tail hs))) hl)
theorem o_ddiv (hX : mCx X) {x y : UInt64} (hy : vf_n64 (FP.ddiv x y)) (hd : decode (mby (mkk X)) pc = .ok (.ddiv, 1)) (kk : mGo X cells slots ad L (.double (FP.ddiv x y) :: r) W9 (pc + 1)) : mGo X cells slots ad L (.double y :: .double x :: r) W9 pc := by
  obtain ⟨p, l, e, R, s, m, args, below, meth, c, Q, A, dC, dI, dA, adR, RO, k⟩ := X
  obtain ⟨hx, hb, hml, hown, ⟨hwA, hwN⟩, hA, hK, hRO, hROA, hlk, hrt, hfr, hlo, hini⟩ := hX
  have hwd : ∀ (n : Nat) (w : Cond), wat n = some w → gw w = true → w.before args s = true := fun n w h g => mwd hwN h g
  intro H locs ls hP hD hS hn hw hL hs hl
  exact lv_ddiv hx hb hd hy (kk H locs ls hP hD hS hn hw hL (wv_cons (fun _ e => by cases e) (wv_tail (wv_tail hs))) hl)
theorem o_f2d (hX : mCx X) {x : UInt32} (hy : vf_n64 (FP.f2d x)) (hd : decode (mby (mkk X)) pc = .ok (.f2d, 1)) (kk : mGo X cells slots ad L (.double (FP.f2d x) :: r) W9 (pc + 1)) : mGo X cells slots ad L (.float x :: r) W9 pc := by
  obtain ⟨p, l, e, R, s, m, args, below, meth, c, Q, A, dC, dI, dA, adR, RO, k⟩ := X
  obtain ⟨hx, hb, hml, hown, ⟨hwA, hwN⟩, hA, hK, hRO, hROA, hlk, hrt, hfr, hlo, hini⟩ := hX
  have hwd : ∀ (n : Nat) (w : Cond), wat n = some w → gw w = true → w.before args s = true := fun n w h g => mwd hwN h g
  intro H locs ls hP hD hS hn hw hL hs hl
  exact lv_f2d hx hb hd hy (kk H locs ls hP hD hS hn hw hL (wv_cons (fun _ e => by cases e) (wv_tail hs)) hl)
end OPS
