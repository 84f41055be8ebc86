/-! the machine: what each op does; what is checked of its place in the code -/
abbrev mSf : Type := List mE → List Nat → Value → List Value → List Value → List mE → Option (List Value × List Value × List mE)
abbrev mCk : Type := Nat → Instr → Nat → List Nat → Value → Bool
def wck (n : Nat) (w : Cond) : Bool := decide (wat n = some w) && gw w
theorem wck_1 {n : Nat} {w : Cond} (h : wck n w = true) : wat n = some w := by
  unfold wck at h
  simp only [Bool.and_eq_true, decide_eq_true_eq] at h
  exact h.1
theorem wck_2 {n : Nat} {w : Cond} (h : wck n w = true) : gw w = true := by
  unfold wck at h
  simp only [Bool.and_eq_true, decide_eq_true_eq] at h
  exact h.2
def SimS (q : mCk × mSf) : Prop := ∀ (X : mX) (cells slots : Nat) (ad : Nat → Nat) (L st : List Value) (W9 : List mE) (pc nx : Nat) (i : Instr) (len : Nat) (x : List Nat) (v : Value) (L' st' : List Value) (W' : List mE), mCx X → mCy X → (∀ e ∈ mRO X, wE 0 e) → cells ≤ (mRm X).cells → slots ≤ (mRm X).slots → decode (mby (mkk X)) pc = .ok (i, len) → nx = pc + len → q.1 (mkk X) i len x v = true → q.2 (mRO X) x v L st W9 = some (L', st', W') → mGo X cells slots ad L' st' W' nx → mGo X cells slots ad L st W9 pc
def vkt (u : Value) (t : Nat) : Bool := match u with
  | .int a => Nat.beq t 0 || (Nat.beq t 2 && (decide (a = 0) || decide (a = 1)))
  | .ref _ => Nat.beq t 1
  | .null => Nat.beq t 1
  | _ => false
theorem ldc_aux (adR ad : Nat → Nat) (q j : Nat) (hq : q = 1000000 + 2 * j) : mz adR ad q = adR (2 * j) ∧ 1000000 ≤ q := by
  have h9 : Nat.blt q 1000000 = false := by
    cases hh : Nat.blt q 1000000
    · rfl
    · have := Nat.le_of_ble_eq_true hh
      omega
  refine ⟨?_, by omega⟩
  rw [mz, h9]
  show adR (q - 1000000) = _
  rw [show q - 1000000 = 2 * j by omega]
def lget (L : List Value) (i : Nat) : Option Value := L[i]?
theorem lset_some {L L' : List Value} {i : Nat} {u : Value} {st st' : List Value} {W9 W' : List mE} (h : mset L i u (fun l => some (l, st, W9)) none = some (L', st', W')) : L' = L.set i u ∧ st' = st ∧ W' = W9 := by
  rw [mset_eq] at h
  by_cases hi : i < L.length
  · rw [if_pos hi] at h; cases h; exact ⟨rfl, rfl, rfl⟩
  · rw [if_neg hi] at h; cases h
theorem wset_some {L L' : List Value} {q : Nat} {e : mE} {st st' : List Value} {W9 W' : List mE} (h : mset W9 q e (fun w => some (L, st, w)) none = some (L', st', W')) : L' = L ∧ st' = st ∧ W' = W9.set q e := by
  rw [mset_eq] at h
  by_cases hi : q < W9.length
  · rw [if_pos hi] at h; cases h; exact ⟨rfl, rfl, rfl⟩
  · rw [if_neg hi] at h; cases h
def ck_iadd : mCk := fun _ i len _ _ => decide (i = .iadd) && Nat.beq len 1
def sf_iadd : mSf := fun _ _ _ L st W9 => match st with
  | .int y :: .int x :: r => some (L, .int (x + y) :: r, W9)
  | _ => none
theorem sim_iadd : SimS (ck_iadd, sf_iadd) := by
  intro X cells slots ad L st W9 pc nx i len x v L' st' W' hX hY hro hce hsl hd hnx hc h kk
  subst hnx
  simp only [ck_iadd, sf_iadd] at hc h
  simp only [Bool.and_eq_true, decide_eq_true_eq] at hc
  obtain ⟨rfl, hl⟩ := hc
  cases Nat.eq_of_beq_eq_true hl
  split at h
  · cases h
    exact o_iadd hX hd kk
  · cases h
def ck_isub : mCk := fun _ i len _ _ => decide (i = .isub) && Nat.beq len 1
def sf_isub : mSf := fun _ _ _ L st W9 => match st with
  | .int y :: .int x :: r => some (L, .int (x - y) :: r, W9)
  | _ => none
theorem sim_isub : SimS (ck_isub, sf_isub) := by
  intro X cells slots ad L st W9 pc nx i len x v L' st' W' hX hY hro hce hsl hd hnx hc h kk
  subst hnx
  simp only [ck_isub, sf_isub] at hc h
  simp only [Bool.and_eq_true, decide_eq_true_eq] at hc
  obtain ⟨rfl, hl⟩ := hc
  cases Nat.eq_of_beq_eq_true hl
  split at h
  · cases h
    exact o_isub hX hd kk
  · cases h
def ck_imul : mCk := fun _ i len _ _ => decide (i = .imul) && Nat.beq len 1
def sf_imul : mSf := fun _ _ _ L st W9 => match st with
  | .int y :: .int x :: r => some (L, .int (x * y) :: r, W9)
  | _ => none
theorem sim_imul : SimS (ck_imul, sf_imul) := by
  intro X cells slots ad L st W9 pc nx i len x v L' st' W' hX hY hro hce hsl hd hnx hc h kk
  subst hnx
  simp only [ck_imul, sf_imul] at hc h
  simp only [Bool.and_eq_true, decide_eq_true_eq] at hc
  obtain ⟨rfl, hl⟩ := hc
  cases Nat.eq_of_beq_eq_true hl
  split at h
  · cases h
    exact o_imul hX hd kk
  · cases h
def ck_iand : mCk := fun _ i len _ _ => decide (i = .iand) && Nat.beq len 1
def sf_iand : mSf := fun _ _ _ L st W9 => match st with
  | .int y :: .int x :: r => some (L, .int (x &&& y) :: r, W9)
  | _ => none
theorem sim_iand : SimS (ck_iand, sf_iand) := by
  intro X cells slots ad L st W9 pc nx i len x v L' st' W' hX hY hro hce hsl hd hnx hc h kk
  subst hnx
  simp only [ck_iand, sf_iand] at hc h
  simp only [Bool.and_eq_true, decide_eq_true_eq] at hc
  obtain ⟨rfl, hl⟩ := hc
  cases Nat.eq_of_beq_eq_true hl
  split at h
  · cases h
    exact o_iand hX hd kk
  · cases h
def ck_ior : mCk := fun _ i len _ _ => decide (i = .ior) && Nat.beq len 1
def sf_ior : mSf := fun _ _ _ L st W9 => match st with
  | .int y :: .int x :: r => some (L, .int (x ||| y) :: r, W9)
  | _ => none
theorem sim_ior : SimS (ck_ior, sf_ior) := by
  intro X cells slots ad L st W9 pc nx i len x v L' st' W' hX hY hro hce hsl hd hnx hc h kk
  subst hnx
  simp only [ck_ior, sf_ior] at hc h
  simp only [Bool.and_eq_true, decide_eq_true_eq] at hc
  obtain ⟨rfl, hl⟩ := hc
  cases Nat.eq_of_beq_eq_true hl
  split at h
  · cases h
    exact o_ior hX hd kk
  · cases h
def ck_ishl : mCk := fun _ i len _ _ => decide (i = .ishl) && Nat.beq len 1
def sf_ishl : mSf := fun _ _ _ L st W9 => match st with
  | .int y :: .int x :: r => some (L, .int (x <<< (y &&& 31)) :: r, W9)
  | _ => none
theorem sim_ishl : SimS (ck_ishl, sf_ishl) := by
  intro X cells slots ad L st W9 pc nx i len x v L' st' W' hX hY hro hce hsl hd hnx hc h kk
  subst hnx
  simp only [ck_ishl, sf_ishl] at hc h
  simp only [Bool.and_eq_true, decide_eq_true_eq] at hc
  obtain ⟨rfl, hl⟩ := hc
  cases Nat.eq_of_beq_eq_true hl
  split at h
  · cases h
    exact o_ishl hX hd kk
  · cases h
def ck_ishr : mCk := fun _ i len _ _ => decide (i = .ishr) && Nat.beq len 1
def sf_ishr : mSf := fun _ _ _ L st W9 => match st with
  | .int y :: .int x :: r => some (L, .int (x >>> (y &&& 31)) :: r, W9)
  | _ => none
theorem sim_ishr : SimS (ck_ishr, sf_ishr) := by
  intro X cells slots ad L st W9 pc nx i len x v L' st' W' hX hY hro hce hsl hd hnx hc h kk
  subst hnx
  simp only [ck_ishr, sf_ishr] at hc h
  simp only [Bool.and_eq_true, decide_eq_true_eq] at hc
  obtain ⟨rfl, hl⟩ := hc
  cases Nat.eq_of_beq_eq_true hl
  split at h
  · cases h
    exact o_ishr hX hd kk
  · cases h
def ck_iushr : mCk := fun _ i len _ _ => decide (i = .iushr) && Nat.beq len 1
def sf_iushr : mSf := fun _ _ _ L st W9 => match st with
  | .int y :: .int x :: r => some (L, .int (x.toUInt32 >>> (y.toUInt32 &&& Int32.toUInt32 31)).toInt32 :: r, W9)
  | _ => none
theorem sim_iushr : SimS (ck_iushr, sf_iushr) := by
  intro X cells slots ad L st W9 pc nx i len x v L' st' W' hX hY hro hce hsl hd hnx hc h kk
  subst hnx
  simp only [ck_iushr, sf_iushr] at hc h
  simp only [Bool.and_eq_true, decide_eq_true_eq] at hc
  obtain ⟨rfl, hl⟩ := hc
  cases Nat.eq_of_beq_eq_true hl
  split at h
  · cases h
    exact o_iushr hX hd kk
  · cases h
def ck_ineg : mCk := fun _ i len _ _ => decide (i = .ineg) && Nat.beq len 1
def sf_ineg : mSf := fun _ _ _ L st W9 => match st with
  | .int x :: r => some (L, .int (-x) :: r, W9)
  | _ => none
theorem sim_ineg : SimS (ck_ineg, sf_ineg) := by
  intro X cells slots ad L st W9 pc nx i len x v L' st' W' hX hY hro hce hsl hd hnx hc h kk
  subst hnx
  simp only [ck_ineg, sf_ineg] at hc h
  simp only [Bool.and_eq_true, decide_eq_true_eq] at hc
  obtain ⟨rfl, hl⟩ := hc
  cases Nat.eq_of_beq_eq_true hl
  split at h
  · cases h
    exact o_ineg hX hd kk
  · cases h
def ck_i2b : mCk := fun _ i len _ _ => decide (i = .i2b) && Nat.beq len 1
def sf_i2b : mSf := fun _ _ _ L st W9 => match st with
  | .int x :: r => some (L, .int x.toInt8.toInt32 :: r, W9)
  | _ => none
theorem sim_i2b : SimS (ck_i2b, sf_i2b) := by
  intro X cells slots ad L st W9 pc nx i len x v L' st' W' hX hY hro hce hsl hd hnx hc h kk
  subst hnx
  simp only [ck_i2b, sf_i2b] at hc h
  simp only [Bool.and_eq_true, decide_eq_true_eq] at hc
  obtain ⟨rfl, hl⟩ := hc
  cases Nat.eq_of_beq_eq_true hl
  split at h
  · cases h
    exact o_i2b hX hd kk
  · cases h
def ck_i2c : mCk := fun _ i len _ _ => decide (i = .i2c) && Nat.beq len 1
def sf_i2c : mSf := fun _ _ _ L st W9 => match st with
  | .int x :: r => some (L, .int (x.toUInt32 % 65536).toInt32 :: r, W9)
  | _ => none
theorem sim_i2c : SimS (ck_i2c, sf_i2c) := by
  intro X cells slots ad L st W9 pc nx i len x v L' st' W' hX hY hro hce hsl hd hnx hc h kk
  subst hnx
  simp only [ck_i2c, sf_i2c] at hc h
  simp only [Bool.and_eq_true, decide_eq_true_eq] at hc
  obtain ⟨rfl, hl⟩ := hc
  cases Nat.eq_of_beq_eq_true hl
  split at h
  · cases h
    exact o_i2c hX hd kk
  · cases h
def ck_i2l : mCk := fun _ i len _ _ => decide (i = .i2l) && Nat.beq len 1
def sf_i2l : mSf := fun _ _ _ L st W9 => match st with
  | .int x :: r => some (L, .long x.toInt64 :: r, W9)
  | _ => none
theorem sim_i2l : SimS (ck_i2l, sf_i2l) := by
  intro X cells slots ad L st W9 pc nx i len x v L' st' W' hX hY hro hce hsl hd hnx hc h kk
  subst hnx
  simp only [ck_i2l, sf_i2l] at hc h
  simp only [Bool.and_eq_true, decide_eq_true_eq] at hc
  obtain ⟨rfl, hl⟩ := hc
  cases Nat.eq_of_beq_eq_true hl
  split at h
  · cases h
    exact o_i2l hX hd kk
  · cases h
def ck_i2f : mCk := fun _ i len _ _ => decide (i = .i2f) && Nat.beq len 1
def sf_i2f : mSf := fun _ _ _ L st W9 => match st with
  | .int x :: r => some (L, .float (FP.i2f x) :: r, W9)
  | _ => none
theorem sim_i2f : SimS (ck_i2f, sf_i2f) := by
  intro X cells slots ad L st W9 pc nx i len x v L' st' W' hX hY hro hce hsl hd hnx hc h kk
  subst hnx
  simp only [ck_i2f, sf_i2f] at hc h
  simp only [Bool.and_eq_true, decide_eq_true_eq] at hc
  obtain ⟨rfl, hl⟩ := hc
  cases Nat.eq_of_beq_eq_true hl
  split at h
  · cases h
    exact o_i2f hX hd kk
  · cases h
def ck_i2d : mCk := fun _ i len _ _ => decide (i = .i2d) && Nat.beq len 1
def sf_i2d : mSf := fun _ _ _ L st W9 => match st with
  | .int x :: r => some (L, .double (FP.i2d x) :: r, W9)
  | _ => none
theorem sim_i2d : SimS (ck_i2d, sf_i2d) := by
  intro X cells slots ad L st W9 pc nx i len x v L' st' W' hX hY hro hce hsl hd hnx hc h kk
  subst hnx
  simp only [ck_i2d, sf_i2d] at hc h
  simp only [Bool.and_eq_true, decide_eq_true_eq] at hc
  obtain ⟨rfl, hl⟩ := hc
  cases Nat.eq_of_beq_eq_true hl
  split at h
  · cases h
    exact o_i2d hX hd kk
  · cases h
def ck_lcmp : mCk := fun _ i len _ _ => decide (i = .lcmp) && Nat.beq len 1
def sf_lcmp : mSf := fun _ _ _ L st W9 => match st with
  | .long y :: .long x :: r => some (L, .int (lg_cmp x y) :: r, W9)
  | _ => none
theorem sim_lcmp : SimS (ck_lcmp, sf_lcmp) := by
  intro X cells slots ad L st W9 pc nx i len x v L' st' W' hX hY hro hce hsl hd hnx hc h kk
  subst hnx
  simp only [ck_lcmp, sf_lcmp] at hc h
  simp only [Bool.and_eq_true, decide_eq_true_eq] at hc
  obtain ⟨rfl, hl⟩ := hc
  cases Nat.eq_of_beq_eq_true hl
  split at h
  · cases h
    exact o_lcmp hX hd kk
  · cases h
def ck_fcmp : mCk := fun _ i len x _ => match i with
  | .fcmp op => decide (op = (match x with
    | [0] => CmpOp.l
    | _ => CmpOp.g)) && Nat.beq len 1
  | _ => false
def sf_fcmp : mSf := fun _ x0 _ L st W9 => match st with
  | .float y :: .float x :: r => some (L, .int (Op.cmpValue (FP.fcmp x y) (match x0 with
    | [0] => CmpOp.l
    | _ => CmpOp.g)) :: r, W9)
  | _ => none
theorem sim_fcmp : SimS (ck_fcmp, sf_fcmp) := by
  intro X cells slots ad L st W9 pc nx i len x v L' st' W' hX hY hro hce hsl hd hnx hc h kk
  subst hnx
  simp only [ck_fcmp, sf_fcmp] at hc h
  cases i with
  | fcmp op =>
    simp only [Bool.and_eq_true, decide_eq_true_eq] at hc
    obtain ⟨hop, hl⟩ := hc
    cases Nat.eq_of_beq_eq_true hl
    subst hop
    split at h
    · cases h
      exact o_fcmp hX hd kk
    · cases h
  | _ => cases hc
def ck_dcmp : mCk := fun _ i len x _ => match i with
  | .dcmp op => decide (op = (match x with
    | [0] => CmpOp.l
    | _ => CmpOp.g)) && Nat.beq len 1
  | _ => false
def sf_dcmp : mSf := fun _ x0 _ L st W9 => match st with
  | .double y :: .double x :: r => some (L, .int (Op.cmpValue (FP.dcmp x y) (match x0 with
    | [0] => CmpOp.l
    | _ => CmpOp.g)) :: r, W9)
  | _ => none
theorem sim_dcmp : SimS (ck_dcmp, sf_dcmp) := by
  intro X cells slots ad L st W9 pc nx i len x v L' st' W' hX hY hro hce hsl hd hnx hc h kk
  subst hnx
  simp only [ck_dcmp, sf_dcmp] at hc h
  cases i with
  | dcmp op =>
    simp only [Bool.and_eq_true, decide_eq_true_eq] at hc
    obtain ⟨hop, hl⟩ := hc
    cases Nat.eq_of_beq_eq_true hl
    subst hop
    split at h
    · cases h
      exact o_dcmp hX hd kk
    · cases h
  | _ => cases hc
def ck_iconst : mCk := fun _ i len _ v => match i, v with
  | .iconst n, .int a => decide (Int32.ofInt n = a) && Nat.beq len 1
  | _, _ => false
def sf_iconst : mSf := fun _ _ v L st W9 => some (L, v :: st, W9)
theorem sim_iconst : SimS (ck_iconst, sf_iconst) := by
  intro X cells slots ad L st W9 pc nx i len x v L' st' W' hX hY hro hce hsl hd hnx hc h kk
  subst hnx
  simp only [ck_iconst, sf_iconst] at hc h
  cases h
  split at hc
  · simp only [Bool.and_eq_true, decide_eq_true_eq] at hc
    obtain ⟨hv, hl⟩ := hc
    cases Nat.eq_of_beq_eq_true hl
    exact o_iconst hX hv hd kk
  · cases hc
def ck_bipush : mCk := fun _ i len _ v => match i, v with
  | .bipush n, .int a => decide ((Int8.ofInt n).toInt32 = a) && Nat.beq len 2
  | _, _ => false
def sf_bipush : mSf := fun _ _ v L st W9 => some (L, v :: st, W9)
theorem sim_bipush : SimS (ck_bipush, sf_bipush) := by
  intro X cells slots ad L st W9 pc nx i len x v L' st' W' hX hY hro hce hsl hd hnx hc h kk
  subst hnx
  simp only [ck_bipush, sf_bipush] at hc h
  cases h
  split at hc
  · simp only [Bool.and_eq_true, decide_eq_true_eq] at hc
    obtain ⟨hv, hl⟩ := hc
    cases Nat.eq_of_beq_eq_true hl
    exact o_bipush hX hv hd kk
  · cases hc
def ck_sipush : mCk := fun _ i len _ v => match i, v with
  | .sipush n, .int a => decide ((Int16.ofInt n).toInt32 = a) && Nat.beq len 3
  | _, _ => false
def sf_sipush : mSf := fun _ _ v L st W9 => some (L, v :: st, W9)
theorem sim_sipush : SimS (ck_sipush, sf_sipush) := by
  intro X cells slots ad L st W9 pc nx i len x v L' st' W' hX hY hro hce hsl hd hnx hc h kk
  subst hnx
  simp only [ck_sipush, sf_sipush] at hc h
  cases h
  split at hc
  · simp only [Bool.and_eq_true, decide_eq_true_eq] at hc
    obtain ⟨hv, hl⟩ := hc
    cases Nat.eq_of_beq_eq_true hl
    exact o_sipush hX hv hd kk
  · cases hc
def ck_fconst0 : mCk := fun _ i len _ _ => decide (i = .fconst 0) && Nat.beq len 1
def sf_fconst0 : mSf := fun _ _ _ L st W9 => some (L, .float FP.fconst0 :: st, W9)
theorem sim_fconst0 : SimS (ck_fconst0, sf_fconst0) := by
  intro X cells slots ad L st W9 pc nx i len x v L' st' W' hX hY hro hce hsl hd hnx hc h kk
  subst hnx
  simp only [ck_fconst0, sf_fconst0] at hc h
  simp only [Bool.and_eq_true, decide_eq_true_eq] at hc
  obtain ⟨rfl, hl⟩ := hc
  cases Nat.eq_of_beq_eq_true hl
  cases h
  obtain ⟨p, l, e, R, s, m, args, below, meth, c, Q, A, dC, dI, dA, adR, RO, k⟩ := X
  obtain ⟨hx, hb, hml, hown, ⟨hwA, hwN⟩, hA, hK, hRO, hROA, hlk, hrt, hfr, hlo, hini⟩ := hX
  intro H locs ls hP hD hS hn hw hL hs hl
  exact lv_fconst0 hx hb hd (kk H locs ls hP hD hS hn hw hL (wv_cons (fun _ e => by cases e) hs) hl)
def ck_dconst0 : mCk := fun _ i len _ _ => decide (i = .dconst 0) && Nat.beq len 1
def sf_dconst0 : mSf := fun _ _ _ L st W9 => some (L, .double FP.dconst0 :: st, W9)
theorem sim_dconst0 : SimS (ck_dconst0, sf_dconst0) := by
  intro X cells slots ad L st W9 pc nx i len x v L' st' W' hX hY hro hce hsl hd hnx hc h kk
  subst hnx
  simp only [ck_dconst0, sf_dconst0] at hc h
  simp only [Bool.and_eq_true, decide_eq_true_eq] at hc
  obtain ⟨rfl, hl⟩ := hc
  cases Nat.eq_of_beq_eq_true hl
  cases h
  obtain ⟨p, l, e, R, s, m, args, below, meth, c, Q, A, dC, dI, dA, adR, RO, k⟩ := X
  obtain ⟨hx, hb, hml, hown, ⟨hwA, hwN⟩, hA, hK, hRO, hROA, hlk, hrt, hfr, hlo, hini⟩ := hX
  intro H locs ls hP hD hS hn hw hL hs hl
  exact lv_dconst0 hx hb hd (kk H locs ls hP hD hS hn hw hL (wv_cons (fun _ e => by cases e) hs) hl)
section VSTRW
variable {p : Program} {l : Launch} {e : Env} {R : Room} {s : State} {m : MethodId} {args : Array Value} {below : List Frame} {meth : Method} {c : Code} {H : Heap} {locs : List Loc} {cells slots : Nat} {Q : State → Prop}
variable {cc : ByteArray} {pc : Nat} {ls : Array Slot} {rest : List Value}
theorem mx_ldcSW (hexec : p.tables.exec = Jvm.exec) (hb : c.code = cc) {own tx : String} {index q : Nat} (hown : s.vm.findClass own = some m.cls) (hZ : vk_R own index tx q s) (hdg : decode cc pc = .ok (.ldc_w index, 3))
    (k : W p l e R s m args below meth c H locs cells slots Q (F0 m (pc + 3) ls (.ref q :: rest))) : W p l e R s m args below meth c H locs cells slots Q (F0 m pc ls rest) := by
  intro T hT X
  obtain ⟨t, a1, b1⟩ := k T hT X
  exact ⟨t, X.ldcStringW hexec hown (text := tx) (a := q) hZ.1 hZ.2 (g := F0 m pc ls rest) rfl (by rw [hb]; exact hdg) t a1, b1⟩
end VSTRW
def ck_ldcS : mCk := fun k i len x v => match i, x, v with
  | .ldc index, [j], .ref q => (match mstrs[j]? with
    | some (own, idx, _) => decide (own = (mnm k).cls) && Nat.beq idx index && Nat.beq q (1000000 + 2 * j) && Nat.beq len 2
    | none => false)
  | .ldc_w index, [j], .ref q => (match mstrs[j]? with
    | some (own, idx, _) => decide (own = (mnm k).cls) && Nat.beq idx index && Nat.beq q (1000000 + 2 * j) && Nat.beq len 3
    | none => false)
  | _, _, _ => false
def sf_ldcS : mSf := fun _ _ v L st W9 => some (L, v :: st, W9)
theorem sim_ldcS : SimS (ck_ldcS, sf_ldcS) := by
  intro X cells slots ad L st W9 pc nx i len x v L' st' W' hX hY hro hce hsl hd hnx hc h kk
  subst hnx
  simp only [ck_ldcS, sf_ldcS] at hc h
  cases h
  split at hc
  · rename_i index j q
    split at hc
    · rename_i own idx tx hj
      simp only [Bool.and_eq_true, decide_eq_true_eq] at hc
      obtain ⟨⟨⟨h1, h2⟩, h3⟩, hl⟩ := hc
      cases Nat.eq_of_beq_eq_true hl
      cases Nat.eq_of_beq_eq_true h2
      have hq := Nat.eq_of_beq_eq_true h3
      subst h1
      obtain ⟨p, l, e, R, s, m, args, below, meth, c, Q, A, dC, dI, dA, adR, RO, k⟩ := X
      obtain ⟨hx, hb, hml, hown, ⟨hwA, hwN⟩, hA, hK, hRO, hROA, hlk, hrt, hfr, hlo, hini⟩ := hX
      intro H locs ls hP hD hS hn hw hL hs hl
      obtain ⟨hz, hge⟩ := ldc_aux adR ad q j hq
      obtain ⟨hE, -, -⟩ := hY
      have hz9 := hE.2.2.1 j _ hj
      have k9 := kk H locs ls hP hD hS hn hw hL (wv_cons (fun r9 e9 => Or.inr (by cases e9; exact hge)) hs) hl
      rw [List.map_cons, show cz (mz adR ad) (.ref q) = .ref (adR (2 * j)) from congrArg Value.ref hz] at k9
      exact va_ldcS hx hb hown hz9 hd k9
    · cases hc
  · rename_i index j q
    split at hc
    · rename_i own idx tx hj
      simp only [Bool.and_eq_true, decide_eq_true_eq] at hc
      obtain ⟨⟨⟨h1, h2⟩, h3⟩, hl⟩ := hc
      cases Nat.eq_of_beq_eq_true hl
      cases Nat.eq_of_beq_eq_true h2
      have hq := Nat.eq_of_beq_eq_true h3
      subst h1
      obtain ⟨p, l, e, R, s, m, args, below, meth, c, Q, A, dC, dI, dA, adR, RO, k⟩ := X
      obtain ⟨hx, hb, hml, hown, ⟨hwA, hwN⟩, hA, hK, hRO, hROA, hlk, hrt, hfr, hlo, hini⟩ := hX
      intro H locs ls hP hD hS hn hw hL hs hl
      obtain ⟨hz, hge⟩ := ldc_aux adR ad q j hq
      obtain ⟨hE, -, -⟩ := hY
      have hz9 := hE.2.2.1 j _ hj
      have k9 := kk H locs ls hP hD hS hn hw hL (wv_cons (fun r9 e9 => Or.inr (by cases e9; exact hge)) hs) hl
      rw [List.map_cons, show cz (mz adR ad) (.ref q) = .ref (adR (2 * j)) from congrArg Value.ref hz] at k9
      exact mx_ldcSW hx hb hown hz9 hd k9
    · cases hc
  · cases hc
def ck_dup : mCk := fun _ i len _ _ => decide (i = .dup) && Nat.beq len 1
def sf_dup : mSf := fun _ _ _ L st W9 => match st with
  | a :: r => bif Nat.beq a.category 1 then some (L, a :: a :: r, W9) else none
  | _ => none
theorem sim_dup : SimS (ck_dup, sf_dup) := by
  intro X cells slots ad L st W9 pc nx i len x v L' st' W' hX hY hro hce hsl hd hnx hc h kk
  subst hnx
  simp only [ck_dup, sf_dup] at hc h
  simp only [Bool.and_eq_true, decide_eq_true_eq] at hc
  obtain ⟨rfl, hl⟩ := hc
  cases Nat.eq_of_beq_eq_true hl
  split at h
  · rename_i a r
    cases hb : Nat.beq a.category 1 with
    | true =>
      rw [hb] at h
      cases h
      exact o_dup hX (Nat.eq_of_beq_eq_true hb) hd kk
    | false => rw [hb] at h; cases h
  · cases h
def ck_pop : mCk := fun _ i len _ _ => decide (i = .pop) && Nat.beq len 1
def sf_pop : mSf := fun _ _ _ L st W9 => match st with
  | a :: r => bif Nat.beq a.category 1 then some (L, r, W9) else none
  | _ => none
theorem sim_pop : SimS (ck_pop, sf_pop) := by
  intro X cells slots ad L st W9 pc nx i len x v L' st' W' hX hY hro hce hsl hd hnx hc h kk
  subst hnx
  simp only [ck_pop, sf_pop] at hc h
  simp only [Bool.and_eq_true, decide_eq_true_eq] at hc
  obtain ⟨rfl, hl⟩ := hc
  cases Nat.eq_of_beq_eq_true hl
  split at h
  · rename_i a r
    cases hb : Nat.beq a.category 1 with
    | true =>
      rw [hb] at h
      cases h
      exact o_pop hX (Nat.eq_of_beq_eq_true hb) hd kk
    | false => rw [hb] at h; cases h
  · cases h
def ck_dup_x1 : mCk := fun _ i len _ _ => decide (i = .dup_x1) && Nat.beq len 1
def sf_dup_x1 : mSf := fun _ _ _ L st W9 => match st with
  | a :: b :: r => bif Nat.beq a.category 1 && Nat.beq b.category 1 then some (L, a :: b :: a :: r, W9) else none
  | _ => none
theorem sim_dup_x1 : SimS (ck_dup_x1, sf_dup_x1) := by
  intro X cells slots ad L st W9 pc nx i len x v L' st' W' hX hY hro hce hsl hd hnx hc h kk
  subst hnx
  simp only [ck_dup_x1, sf_dup_x1] at hc h
  simp only [Bool.and_eq_true, decide_eq_true_eq] at hc
  obtain ⟨rfl, hl⟩ := hc
  cases Nat.eq_of_beq_eq_true hl
  split at h
  · rename_i a b r
    cases hb : (Nat.beq a.category 1 && Nat.beq b.category 1) with
    | true =>
      rw [hb] at h
      cases h
      simp only [Bool.and_eq_true] at hb
      exact o_dup_x1 hX (Nat.eq_of_beq_eq_true hb.1) (Nat.eq_of_beq_eq_true hb.2) hd kk
    | false => rw [hb] at h; cases h
  · cases h
def ck_dup2 : mCk := fun _ i len _ _ => decide (i = .dup2) && Nat.beq len 1
def sf_dup2 : mSf := fun _ _ _ L st W9 => match st with
  | a :: b :: r => bif Nat.beq a.category 1 && Nat.beq b.category 1 then some (L, a :: b :: a :: b :: r, W9) else none
  | _ => none
theorem sim_dup2 : SimS (ck_dup2, sf_dup2) := by
  intro X cells slots ad L st W9 pc nx i len x v L' st' W' hX hY hro hce hsl hd hnx hc h kk
  subst hnx
  simp only [ck_dup2, sf_dup2] at hc h
  simp only [Bool.and_eq_true, decide_eq_true_eq] at hc
  obtain ⟨rfl, hl⟩ := hc
  cases Nat.eq_of_beq_eq_true hl
  split at h
  · rename_i a b r
    cases hb : (Nat.beq a.category 1 && Nat.beq b.category 1) with
    | true =>
      rw [hb] at h
      cases h
      simp only [Bool.and_eq_true] at hb
      exact o_dup2 hX (Nat.eq_of_beq_eq_true hb.1) (Nat.eq_of_beq_eq_true hb.2) hd kk
    | false => rw [hb] at h; cases h
  · cases h
def ck_iload : mCk := fun _ i len x _ => match i, x with
  | .iload j, [n] => Nat.beq j n && Nat.beq len 2
  | .iload_n j, [n] => Nat.beq j n && Nat.beq len 1
  | _, _ => false
def sf_iload : mSf := fun _ x _ L st W9 => match x with
  | [n] => (match lget L n with
    | some (.int a) => some (L, .int a :: st, W9)
    | _ => none)
  | _ => none
theorem sim_iload : SimS (ck_iload, sf_iload) := by
  intro X cells slots ad L st W9 pc nx i len x v L' st' W' hX hY hro hce hsl hd hnx hc h kk
  subst hnx
  simp only [ck_iload, sf_iload] at hc h
  split at h
  · rename_i n
    split at h
    · rename_i a ha
      cases h
      split at hc
      · rename_i hx
        cases hx
        simp only [Bool.and_eq_true] at hc
        obtain ⟨h1, hl⟩ := hc
        cases Nat.eq_of_beq_eq_true hl
        cases Nat.eq_of_beq_eq_true h1
        exact o_iload hX ha hd kk
      · rename_i hx
        cases hx
        simp only [Bool.and_eq_true] at hc
        obtain ⟨h1, hl⟩ := hc
        cases Nat.eq_of_beq_eq_true hl
        exact o_iload_n hX (Nat.eq_of_beq_eq_true h1) ha hd kk
      · cases hc
    · cases h
  · cases h
def ck_aload : mCk := fun _ i len x _ => match i, x with
  | .aload j, [n] => Nat.beq j n && Nat.beq len 2
  | .aload_n j, [n] => Nat.beq j n && Nat.beq len 1
  | _, _ => false
def sf_aload : mSf := fun _ x _ L st W9 => match x with
  | [n] => (match lget L n with
    | some (.ref a) => some (L, .ref a :: st, W9)
    | _ => none)
  | _ => none
theorem sim_aload : SimS (ck_aload, sf_aload) := by
  intro X cells slots ad L st W9 pc nx i len x v L' st' W' hX hY hro hce hsl hd hnx hc h kk
  subst hnx
  simp only [ck_aload, sf_aload] at hc h
  split at h
  · rename_i n
    split at h
    · rename_i a ha
      cases h
      split at hc
      · rename_i hx
        cases hx
        simp only [Bool.and_eq_true] at hc
        obtain ⟨h1, hl⟩ := hc
        cases Nat.eq_of_beq_eq_true hl
        cases Nat.eq_of_beq_eq_true h1
        exact o_aload hX ha hd kk
      · rename_i hx
        cases hx
        simp only [Bool.and_eq_true] at hc
        obtain ⟨h1, hl⟩ := hc
        cases Nat.eq_of_beq_eq_true hl
        exact o_aload_n hX (Nat.eq_of_beq_eq_true h1) ha hd kk
      · cases hc
    · cases h
  · cases h
def ck_fload : mCk := fun _ i len x _ => match i, x with
  | .fload j, [n] => Nat.beq j n && Nat.beq len 2
  | .fload_n j, [n] => Nat.beq j n && Nat.beq len 1
  | _, _ => false
def sf_fload : mSf := fun _ x _ L st W9 => match x with
  | [n] => (match lget L n with
    | some (.float a) => some (L, .float a :: st, W9)
    | _ => none)
  | _ => none
theorem sim_fload : SimS (ck_fload, sf_fload) := by
  intro X cells slots ad L st W9 pc nx i len x v L' st' W' hX hY hro hce hsl hd hnx hc h kk
  subst hnx
  simp only [ck_fload, sf_fload] at hc h
  split at h
  · rename_i n
    split at h
    · rename_i a ha
      cases h
      split at hc
      · rename_i hx
        cases hx
        simp only [Bool.and_eq_true] at hc
        obtain ⟨h1, hl⟩ := hc
        cases Nat.eq_of_beq_eq_true hl
        cases Nat.eq_of_beq_eq_true h1
        exact o_fload hX ha hd kk
      · rename_i hx
        cases hx
        simp only [Bool.and_eq_true] at hc
        obtain ⟨h1, hl⟩ := hc
        cases Nat.eq_of_beq_eq_true hl
        exact o_fload_n hX (Nat.eq_of_beq_eq_true h1) ha hd kk
      · cases hc
    · cases h
  · cases h
def ck_dload : mCk := fun _ i len x _ => match i, x with
  | .dload j, [n] => Nat.beq j n && Nat.beq len 2
  | .dload_n j, [n] => Nat.beq j n && Nat.beq len 1
  | _, _ => false
def sf_dload : mSf := fun _ x _ L st W9 => match x with
  | [n] => (match lget L n with
    | some (.double a) => some (L, .double a :: st, W9)
    | _ => none)
  | _ => none
theorem sim_dload : SimS (ck_dload, sf_dload) := by
  intro X cells slots ad L st W9 pc nx i len x v L' st' W' hX hY hro hce hsl hd hnx hc h kk
  subst hnx
  simp only [ck_dload, sf_dload] at hc h
  split at h
  · rename_i n
    split at h
    · rename_i a ha
      cases h
      split at hc
      · rename_i hx
        cases hx
        simp only [Bool.and_eq_true] at hc
        obtain ⟨h1, hl⟩ := hc
        cases Nat.eq_of_beq_eq_true hl
        cases Nat.eq_of_beq_eq_true h1
        exact o_dload hX ha hd kk
      · rename_i hx
        cases hx
        simp only [Bool.and_eq_true] at hc
        obtain ⟨h1, hl⟩ := hc
        cases Nat.eq_of_beq_eq_true hl
        exact o_dload_n hX (Nat.eq_of_beq_eq_true h1) ha hd kk
      · cases hc
    · cases h
  · cases h
def ck_lload : mCk := fun _ i len x _ => match i, x with
  | .lload j, [n] => Nat.beq j n && Nat.beq len 2
  | .lload_n j, [n] => Nat.beq j n && Nat.beq len 1
  | _, _ => false
def sf_lload : mSf := fun _ x _ L st W9 => match x with
  | [n] => (match lget L n with
    | some (.long a) => some (L, .long a :: st, W9)
    | _ => none)
  | _ => none
theorem sim_lload : SimS (ck_lload, sf_lload) := by
  intro X cells slots ad L st W9 pc nx i len x v L' st' W' hX hY hro hce hsl hd hnx hc h kk
  subst hnx
  simp only [ck_lload, sf_lload] at hc h
  split at h
  · rename_i n
    split at h
    · rename_i a ha
      cases h
      split at hc
      · rename_i hx
        cases hx
        simp only [Bool.and_eq_true] at hc
        obtain ⟨h1, hl⟩ := hc
        cases Nat.eq_of_beq_eq_true hl
        cases Nat.eq_of_beq_eq_true h1
        exact o_lload hX ha hd kk
      · rename_i hx
        cases hx
        simp only [Bool.and_eq_true] at hc
        obtain ⟨h1, hl⟩ := hc
        cases Nat.eq_of_beq_eq_true hl
        exact o_lload_n hX (Nat.eq_of_beq_eq_true h1) ha hd kk
      · cases hc
    · cases h
  · cases h
def ck_istore : mCk := fun k i len x _ => match i, x with
  | .istore j, [n] => Nat.beq j n && Nat.beq len 2 && Nat.blt n (mml k)
  | .istore_n j, [n] => Nat.beq j n && Nat.beq len 1 && Nat.blt n (mml k)
  | _, _ => false
def sf_istore : mSf := fun _ x _ L st W9 => match x, st with
  | [n], .int a :: r => bif okp L n then mset L n (.int a) (fun l => some (l, r, W9)) none else none
  | _, _ => none
theorem sim_istore : SimS (ck_istore, sf_istore) := by
  intro X cells slots ad L st W9 pc nx i len x v L' st' W' hX hY hro hce hsl hd hnx hc h kk
  subst hnx
  simp only [ck_istore, sf_istore] at hc h
  split at h
  · rename_i n a r
    cases hb : okp L n with
    | true =>
      rw [hb] at h
      obtain ⟨rfl, rfl, rfl⟩ := lset_some (show mset L n (.int a) (fun l => some (l, r, W9)) none = some (L', st', W') from h)
      split at hc
      · rename_i hx
        cases hx
        simp only [Bool.and_eq_true] at hc
        obtain ⟨⟨h1, hl⟩, hm⟩ := hc
        cases Nat.eq_of_beq_eq_true hl
        cases Nat.eq_of_beq_eq_true h1
        exact o_istore hX hb (Nat.le_of_ble_eq_true hm) hd kk
      · rename_i hx
        cases hx
        simp only [Bool.and_eq_true] at hc
        obtain ⟨⟨h1, hl⟩, hm⟩ := hc
        cases Nat.eq_of_beq_eq_true hl
        exact o_istore_n hX (Nat.eq_of_beq_eq_true h1) hb (Nat.le_of_ble_eq_true hm) hd kk
      · cases hc
    | false => rw [hb] at h; cases h
  · cases h
def ck_astore : mCk := fun k i len x _ => match i, x with
  | .astore j, [n] => Nat.beq j n && Nat.beq len 2 && Nat.blt n (mml k)
  | .astore_n j, [n] => Nat.beq j n && Nat.beq len 1 && Nat.blt n (mml k)
  | _, _ => false
def sf_astore : mSf := fun _ x _ L st W9 => match x, st with
  | [n], .ref a :: r => bif okp L n then mset L n (.ref a) (fun l => some (l, r, W9)) none else none
  | _, _ => none
theorem sim_astore : SimS (ck_astore, sf_astore) := by
  intro X cells slots ad L st W9 pc nx i len x v L' st' W' hX hY hro hce hsl hd hnx hc h kk
  subst hnx
  simp only [ck_astore, sf_astore] at hc h
  split at h
  · rename_i n a r
    cases hb : okp L n with
    | true =>
      rw [hb] at h
      obtain ⟨rfl, rfl, rfl⟩ := lset_some (show mset L n (.ref a) (fun l => some (l, r, W9)) none = some (L', st', W') from h)
      split at hc
      · rename_i hx
        cases hx
        simp only [Bool.and_eq_true] at hc
        obtain ⟨⟨h1, hl⟩, hm⟩ := hc
        cases Nat.eq_of_beq_eq_true hl
        cases Nat.eq_of_beq_eq_true h1
        exact o_astore hX hb (Nat.le_of_ble_eq_true hm) hd kk
      · rename_i hx
        cases hx
        simp only [Bool.and_eq_true] at hc
        obtain ⟨⟨h1, hl⟩, hm⟩ := hc
        cases Nat.eq_of_beq_eq_true hl
        exact o_astore_n hX (Nat.eq_of_beq_eq_true h1) hb (Nat.le_of_ble_eq_true hm) hd kk
      · cases hc
    | false => rw [hb] at h; cases h
  · cases h
def ck_fstore : mCk := fun k i len x _ => match i, x with
  | .fstore j, [n] => Nat.beq j n && Nat.beq len 2 && Nat.blt n (mml k)
  | .fstore_n j, [n] => Nat.beq j n && Nat.beq len 1 && Nat.blt n (mml k)
  | _, _ => false
def sf_fstore : mSf := fun _ x _ L st W9 => match x, st with
  | [n], .float a :: r => bif okp L n then mset L n (.float a) (fun l => some (l, r, W9)) none else none
  | _, _ => none
theorem sim_fstore : SimS (ck_fstore, sf_fstore) := by
  intro X cells slots ad L st W9 pc nx i len x v L' st' W' hX hY hro hce hsl hd hnx hc h kk
  subst hnx
  simp only [ck_fstore, sf_fstore] at hc h
  split at h
  · rename_i n a r
    cases hb : okp L n with
    | true =>
      rw [hb] at h
      obtain ⟨rfl, rfl, rfl⟩ := lset_some (show mset L n (.float a) (fun l => some (l, r, W9)) none = some (L', st', W') from h)
      split at hc
      · rename_i hx
        cases hx
        simp only [Bool.and_eq_true] at hc
        obtain ⟨⟨h1, hl⟩, hm⟩ := hc
        cases Nat.eq_of_beq_eq_true hl
        cases Nat.eq_of_beq_eq_true h1
        exact o_fstore hX hb (Nat.le_of_ble_eq_true hm) hd kk
      · rename_i hx
        cases hx
        simp only [Bool.and_eq_true] at hc
        obtain ⟨⟨h1, hl⟩, hm⟩ := hc
        cases Nat.eq_of_beq_eq_true hl
        exact o_fstore_n hX (Nat.eq_of_beq_eq_true h1) hb (Nat.le_of_ble_eq_true hm) hd kk
      · cases hc
    | false => rw [hb] at h; cases h
  · cases h
def ck_dstore : mCk := fun k i len x _ => match i, x with
  | .dstore j, [n] => Nat.beq j n && Nat.beq len 2 && Nat.blt (n + 1) (mml k)
  | .dstore_n j, [n] => Nat.beq j n && Nat.beq len 1 && Nat.blt (n + 1) (mml k)
  | _, _ => false
def sf_dstore : mSf := fun _ x _ L st W9 => match x, st with
  | [n], .double a :: r => bif okp L n then mset L n (.double a) (fun l => mset l (n + 1) (.retAddr 0) (fun l => some (l, r, W9)) none) none else none
  | _, _ => none
theorem sim_dstore : SimS (ck_dstore, sf_dstore) := by
  intro X cells slots ad L st W9 pc nx i len x v L' st' W' hX hY hro hce hsl hd hnx hc h kk
  subst hnx
  simp only [ck_dstore, sf_dstore] at hc h
  split at h
  · rename_i n a r
    cases hb : okp L n with
    | true =>
      rw [hb] at h
      have h9 : mset L n (.double a) (fun l => mset l (n + 1) (.retAddr 0) (fun l => some (l, r, W9)) none) none = some (L', st', W') := h
      rw [mset_eq] at h9
      by_cases hi : n < L.length
      · rw [if_pos hi] at h9
        obtain ⟨rfl, rfl, rfl⟩ := lset_some h9
        split at hc
        · rename_i hx
          cases hx
          simp only [Bool.and_eq_true] at hc
          obtain ⟨⟨h1, hl⟩, hm⟩ := hc
          cases Nat.eq_of_beq_eq_true hl
          cases Nat.eq_of_beq_eq_true h1
          exact o_dstore hX hb (Nat.le_of_ble_eq_true hm) hd kk
        · rename_i hx
          cases hx
          simp only [Bool.and_eq_true] at hc
          obtain ⟨⟨h1, hl⟩, hm⟩ := hc
          cases Nat.eq_of_beq_eq_true hl
          exact o_dstore_n hX (Nat.eq_of_beq_eq_true h1) hb (Nat.le_of_ble_eq_true hm) hd kk
        · cases hc
      · rw [if_neg hi] at h9; cases h9
    | false => rw [hb] at h; cases h
  · cases h
def ck_iinc : mCk := fun k i len x v => match i, x, v with
  | .iinc j c, [n], .int a => Nat.beq j n && decide (Int32.ofInt c = a) && Nat.beq len 3 && Nat.blt n (mml k)
  | _, _, _ => false
def sf_iinc : mSf := fun _ x v L st W9 => match x, v with
  | [n], .int a => bif okp L n then (match lget L n with
    | some (.int b) => mset L n (.int (b + a)) (fun l => some (l, st, W9)) none
    | _ => none) else none
  | _, _ => none
theorem sim_iinc : SimS (ck_iinc, sf_iinc) := by
  intro X cells slots ad L st W9 pc nx i len x v L' st' W' hX hY hro hce hsl hd hnx hc h kk
  subst hnx
  simp only [ck_iinc, sf_iinc] at hc h
  split at h
  · rename_i n a
    cases hb : okp L n with
    | true =>
      rw [hb] at h
      simp only [cond_true] at h
      split at h
      · rename_i b ha
        obtain ⟨rfl, rfl, rfl⟩ := lset_some h
        split at hc
        · rename_i j c n9 a9 hx hv
          cases hx
          cases hv
          simp only [Bool.and_eq_true, decide_eq_true_eq] at hc
          obtain ⟨⟨⟨h1, h2⟩, hl⟩, hm⟩ := hc
          cases Nat.eq_of_beq_eq_true hl
          cases Nat.eq_of_beq_eq_true h1
          exact o_iinc hX ha h2 hb (Nat.le_of_ble_eq_true hm) hd kk
        · cases hc
      · cases h
    | false => rw [hb] at h; cases h
  · cases h
def ck_getfield : mCk := fun k i len x _ => match i, x with
  | .getfield index, [ci, kf, n] => (match vwCl[ci]? with
    | some (_, T, N) => Nat.blt kf N && uok ci && wck n (.fieldLink (mnm k).cls index (T kf).1 (T kf).2.1 (T kf).2.2.1) && Nat.beq len 3
    | none => false)
  | _, _ => false
def sf_getfield : mSf := fun RO x _ L st W9 => match x, st with
  | [ci, kf, _], .ref q :: r => (match mget RO W9 q with
    | some (.inr (cj, fs)) => bif Nat.beq ci cj then (match fs[kf]? with
      | some u => some (L, u :: r, W9)
      | none => none) else none
    | _ => none)
  | _, _ => none
theorem sim_getfield : SimS (ck_getfield, sf_getfield) := by
  intro X cells slots ad L st W9 pc nx i len x v L' st' W' hX hY hro hce hsl hd hnx hc h kk
  subst hnx
  simp only [ck_getfield, sf_getfield] at hc h
  split at h
  · rename_i ci kf n q r
    split at h
    · rename_i cj fs hg
      cases hb : Nat.beq ci cj with
      | true =>
        rw [hb] at h
        simp only [cond_true] at h
        cases Nat.eq_of_beq_eq_true hb
        split at h
        · rename_i u hu
          cases h
          split at hc
          · rename_i index ci9 kf9 n9 hx
            cases hx
            split at hc
            · rename_i C T N hcl
              simp only [Bool.and_eq_true] at hc
              obtain ⟨⟨⟨h1, h2⟩, h3⟩, hl⟩ := hc
              cases Nat.eq_of_beq_eq_true hl
              exact o_getfield hX hro hcl h2 (Nat.le_of_ble_eq_true h1) (wck_1 h3) (wck_2 h3) hg hu hd kk
            · cases hc
          · cases hc
        · cases h
      | false => rw [hb] at h; cases h
    · cases h
  · cases h
def ck_getfieldN : mCk := fun k i len x _ => match i, x with
  | .getfield index, [ci, kf, n] => (match vwCl[ci]? with
    | some (_, T, N) => Nat.blt kf N && uok ci && wck n (.fieldLinkNest (mnm k).cls index (T kf).1 (T kf).2.1 (T kf).2.2.1 "MuleTrain") && Nat.beq len 3
    | none => false)
  | _, _ => false
def sf_getfieldN : mSf := fun RO x _ L st W9 => match x, st with
  | [ci, kf, _], .ref q :: r => (match mget RO W9 q with
    | some (.inr (cj, fs)) => bif Nat.beq ci cj then (match fs[kf]? with
      | some u => some (L, u :: r, W9)
      | none => none) else none
    | _ => none)
  | _, _ => none
theorem sim_getfieldN : SimS (ck_getfieldN, sf_getfieldN) := by
  intro X cells slots ad L st W9 pc nx i len x v L' st' W' hX hY hro hce hsl hd hnx hc h kk
  subst hnx
  simp only [ck_getfieldN, sf_getfieldN] at hc h
  split at h
  · rename_i ci kf n q r
    split at h
    · rename_i cj fs hg
      cases hb : Nat.beq ci cj with
      | true =>
        rw [hb] at h
        simp only [cond_true] at h
        cases Nat.eq_of_beq_eq_true hb
        split at h
        · rename_i u hu
          cases h
          split at hc
          · rename_i index ci9 kf9 n9 hx
            cases hx
            split at hc
            · rename_i C T N hcl
              simp only [Bool.and_eq_true] at hc
              obtain ⟨⟨⟨h1, h2⟩, h3⟩, hl⟩ := hc
              cases Nat.eq_of_beq_eq_true hl
              exact o_getfieldN hX hro hcl h2 (Nat.le_of_ble_eq_true h1) (wck_1 h3) (wck_2 h3) hg hu hd kk
            · cases hc
          · cases hc
        · cases h
      | false => rw [hb] at h; cases h
    · cases h
  · cases h
def ck_putfield : mCk := fun k i len x _ => match i, x with
  | .putfield index, [ci, kf, n, t] => (match vwCl[ci]? with
    | some (_, T, N) => Nat.blt kf N && uok ci && wck n (.fieldLink (mnm k).cls index (T kf).1 (T kf).2.1 (T kf).2.2.1) && (!(T kf).2.2.2) && (bif Nat.beq t 0 then decide (tyf ci kf = .int) else bif Nat.beq t 2 then (decide (tyf ci kf = .byte) || decide (tyf ci kf = .boolean)) else refKind (tyf ci kf)) && Nat.beq len 3
    | none => false)
  | _, _ => false
def sf_putfield : mSf := fun _ x _ L st W9 => match x, st with
  | [ci, kf, _, t], u :: .ref q :: r => bif Nat.blt q 1000000 && vkt u t then (match W9[q]? with
    | some (.inr (cj, fs)) => bif Nat.beq ci cj && Nat.blt kf fs.length then mset fs kf u (fun fs2 => mset W9 q (.inr (ci, fs2)) (fun w => some (L, r, w)) none) none else none
    | _ => none) else none
  | _, _ => none
theorem sim_putfield : SimS (ck_putfield, sf_putfield) := by
  intro X cells slots ad L st W9 pc nx i len x v L' st' W' hX hY hro hce hsl hd hnx hc h kk
  subst hnx
  simp only [ck_putfield, sf_putfield] at hc h
  split at h
  · rename_i ci kf n t u q r
    cases hb : (Nat.blt q 1000000 && vkt u t) with
    | true =>
      rw [hb] at h
      simp only [cond_true] at h
      simp only [Bool.and_eq_true] at hb
      obtain ⟨hq, hu⟩ := hb
      split at h
      · rename_i cj fs hg
        cases hb2 : (Nat.beq ci cj && Nat.blt kf fs.length) with
        | true =>
          rw [hb2] at h
          simp only [cond_true] at h
          simp only [Bool.and_eq_true] at hb2
          obtain ⟨hcj, hlen⟩ := hb2
          cases Nat.eq_of_beq_eq_true hcj
          rw [mset_eq] at h
          rw [if_pos (show kf < fs.length from Nat.le_of_ble_eq_true hlen)] at h
          obtain ⟨rfl, rfl, rfl⟩ := wset_some h
          split at hc
          · rename_i index ci9 kf9 n9 t9 hx
            cases hx
            split at hc
            · rename_i C T N hcl
              simp only [Bool.and_eq_true] at hc
              obtain ⟨⟨⟨⟨⟨h1, h2⟩, h3⟩, h4⟩, h5⟩, hl⟩ := hc
              cases Nat.eq_of_beq_eq_true hl
              have hnf : (∀ z, narrow (tyf ci kf) (cz z u) = cz z u) ∧ ∀ z, fits (tyf ci kf) (cz z u) = true := by
                cases ht : Nat.beq t 0 with
                | true =>
                  rw [ht] at h5
                  simp only [cond_true, decide_eq_true_eq] at h5
                  have h0 := Nat.eq_of_beq_eq_true ht
                  subst h0
                  rw [h5]
                  cases u with
                  | int a => exact ⟨fun _ => rfl, fun _ => rfl⟩
                  | _ => exact absurd hu (by simp [vkt])
                | false =>
                  rw [ht] at h5
                  simp only [cond_false] at h5
                  cases ht2 : Nat.beq t 2 with
                  | true =>
                    rw [ht2] at h5
                    simp only [cond_true, Bool.or_eq_true, decide_eq_true_eq] at h5
                    have h0 := Nat.eq_of_beq_eq_true ht2
                    subst h0
                    cases u with
                    | int a =>
                      have ha : a = 0 ∨ a = 1 := by simpa [vkt] using hu
                      rcases h5 with h5 | h5 <;> rcases ha with rfl | rfl <;> (rw [h5]; exact ⟨fun _ => rfl, fun _ => rfl⟩)
                    | _ => exact absurd hu (by simp [vkt])
                  | false =>
                    rw [ht2] at h5
                    simp only [cond_false] at h5
                    cases u with
                    | int a => exact absurd hu (by simp only [vkt]; rw [ht, ht2]; simp)
                    | ref a =>
                      cases hty : tyf ci kf with
                      | object n => exact ⟨fun _ => rfl, fun _ => rfl⟩
                      | array n => exact ⟨fun _ => rfl, fun _ => rfl⟩
                      | _ => rw [hty] at h5; cases h5
                    | null =>
                      cases hty : tyf ci kf with
                      | object n => exact ⟨fun _ => rfl, fun _ => rfl⟩
                      | array n => exact ⟨fun _ => rfl, fun _ => rfl⟩
                      | _ => rw [hty] at h5; cases h5
                    | _ => exact absurd hu (by simp [vkt])
              exact o_putfield hX hcl h2 (Nat.le_of_ble_eq_true h1) (by simpa using h4) (wck_1 h3) (wck_2 h3) hq hg hnf.1 hnf.2 (Nat.le_of_ble_eq_true hlen) hd kk
            · cases hc
          · cases hc
        | false => rw [hb2] at h; cases h
      · cases h
    | false => rw [hb] at h; cases h
  · cases h
def ck_putfieldN : mCk := fun k i len x _ => match i, x with
  | .putfield index, [ci, kf, n, t] => (match vwCl[ci]? with
    | some (_, T, N) => Nat.blt kf N && uok ci && wck n (.fieldLinkNest (mnm k).cls index (T kf).1 (T kf).2.1 (T kf).2.2.1 "MuleTrain") && (!(T kf).2.2.2) && (bif Nat.beq t 0 then decide (tyf ci kf = .int) else bif Nat.beq t 2 then (decide (tyf ci kf = .byte) || decide (tyf ci kf = .boolean)) else refKind (tyf ci kf)) && Nat.beq len 3
    | none => false)
  | _, _ => false
def sf_putfieldN : mSf := fun _ x _ L st W9 => match x, st with
  | [ci, kf, _, t], u :: .ref q :: r => bif Nat.blt q 1000000 && vkt u t then (match W9[q]? with
    | some (.inr (cj, fs)) => bif Nat.beq ci cj && Nat.blt kf fs.length then mset fs kf u (fun fs2 => mset W9 q (.inr (ci, fs2)) (fun w => some (L, r, w)) none) none else none
    | _ => none) else none
  | _, _ => none
theorem sim_putfieldN : SimS (ck_putfieldN, sf_putfieldN) := by
  intro X cells slots ad L st W9 pc nx i len x v L' st' W' hX hY hro hce hsl hd hnx hc h kk
  subst hnx
  simp only [ck_putfieldN, sf_putfieldN] at hc h
  split at h
  · rename_i ci kf n t u q r
    cases hb : (Nat.blt q 1000000 && vkt u t) with
    | true =>
      rw [hb] at h
      simp only [cond_true] at h
      simp only [Bool.and_eq_true] at hb
      obtain ⟨hq, hu⟩ := hb
      split at h
      · rename_i cj fs hg
        cases hb2 : (Nat.beq ci cj && Nat.blt kf fs.length) with
        | true =>
          rw [hb2] at h
          simp only [cond_true] at h
          simp only [Bool.and_eq_true] at hb2
          obtain ⟨hcj, hlen⟩ := hb2
          cases Nat.eq_of_beq_eq_true hcj
          rw [mset_eq] at h
          rw [if_pos (show kf < fs.length from Nat.le_of_ble_eq_true hlen)] at h
          obtain ⟨rfl, rfl, rfl⟩ := wset_some h
          split at hc
          · rename_i index ci9 kf9 n9 t9 hx
            cases hx
            split at hc
            · rename_i C T N hcl
              simp only [Bool.and_eq_true] at hc
              obtain ⟨⟨⟨⟨⟨h1, h2⟩, h3⟩, h4⟩, h5⟩, hl⟩ := hc
              cases Nat.eq_of_beq_eq_true hl
              have hnf : (∀ z, narrow (tyf ci kf) (cz z u) = cz z u) ∧ ∀ z, fits (tyf ci kf) (cz z u) = true := by
                cases ht : Nat.beq t 0 with
                | true =>
                  rw [ht] at h5
                  simp only [cond_true, decide_eq_true_eq] at h5
                  have h0 := Nat.eq_of_beq_eq_true ht
                  subst h0
                  rw [h5]
                  cases u with
                  | int a => exact ⟨fun _ => rfl, fun _ => rfl⟩
                  | _ => exact absurd hu (by simp [vkt])
                | false =>
                  rw [ht] at h5
                  simp only [cond_false] at h5
                  cases ht2 : Nat.beq t 2 with
                  | true =>
                    rw [ht2] at h5
                    simp only [cond_true, Bool.or_eq_true, decide_eq_true_eq] at h5
                    have h0 := Nat.eq_of_beq_eq_true ht2
                    subst h0
                    cases u with
                    | int a =>
                      have ha : a = 0 ∨ a = 1 := by simpa [vkt] using hu
                      rcases h5 with h5 | h5 <;> rcases ha with rfl | rfl <;> (rw [h5]; exact ⟨fun _ => rfl, fun _ => rfl⟩)
                    | _ => exact absurd hu (by simp [vkt])
                  | false =>
                    rw [ht2] at h5
                    simp only [cond_false] at h5
                    cases u with
                    | int a => exact absurd hu (by simp only [vkt]; rw [ht, ht2]; simp)
                    | ref a =>
                      cases hty : tyf ci kf with
                      | object n => exact ⟨fun _ => rfl, fun _ => rfl⟩
                      | array n => exact ⟨fun _ => rfl, fun _ => rfl⟩
                      | _ => rw [hty] at h5; cases h5
                    | null =>
                      cases hty : tyf ci kf with
                      | object n => exact ⟨fun _ => rfl, fun _ => rfl⟩
                      | array n => exact ⟨fun _ => rfl, fun _ => rfl⟩
                      | _ => rw [hty] at h5; cases h5
                    | _ => exact absurd hu (by simp [vkt])
              exact o_putfieldN hX hcl h2 (Nat.le_of_ble_eq_true h1) (by simpa using h4) (wck_1 h3) (wck_2 h3) hq hg hnf.1 hnf.2 (Nat.le_of_ble_eq_true hlen) hd kk
            · cases hc
          · cases hc
        | false => rw [hb2] at h; cases h
      · cases h
    | false => rw [hb] at h; cases h
  · cases h
def ck_putfieldF : mCk := fun k i len x _ => match i, x with
  | .putfield index, [ci, kf, n, t] => (match vwCl[ci]? with
    | some (_, T, N) => Nat.blt kf N && uok ci && wck n (.fieldLink (mnm k).cls index (T kf).1 (T kf).2.1 (T kf).2.2.1) && ((T kf).2.2.2 && mini k && decide ((T kf).1 = (mnm k).cls)) && (bif Nat.beq t 0 then decide (tyf ci kf = .int) else bif Nat.beq t 2 then (decide (tyf ci kf = .byte) || decide (tyf ci kf = .boolean)) else refKind (tyf ci kf)) && Nat.beq len 3
    | none => false)
  | _, _ => false
def sf_putfieldF : mSf := fun _ x _ L st W9 => match x, st with
  | [ci, kf, _, t], u :: .ref q :: r => bif Nat.blt q 1000000 && vkt u t then (match W9[q]? with
    | some (.inr (cj, fs)) => bif Nat.beq ci cj && Nat.blt kf fs.length then mset fs kf u (fun fs2 => mset W9 q (.inr (ci, fs2)) (fun w => some (L, r, w)) none) none else none
    | _ => none) else none
  | _, _ => none
theorem sim_putfieldF : SimS (ck_putfieldF, sf_putfieldF) := by
  intro X cells slots ad L st W9 pc nx i len x v L' st' W' hX hY hro hce hsl hd hnx hc h kk
  subst hnx
  simp only [ck_putfieldF, sf_putfieldF] at hc h
  split at h
  · rename_i ci kf n t u q r
    cases hb : (Nat.blt q 1000000 && vkt u t) with
    | true =>
      rw [hb] at h
      simp only [cond_true] at h
      simp only [Bool.and_eq_true] at hb
      obtain ⟨hq, hu⟩ := hb
      split at h
      · rename_i cj fs hg
        cases hb2 : (Nat.beq ci cj && Nat.blt kf fs.length) with
        | true =>
          rw [hb2] at h
          simp only [cond_true] at h
          simp only [Bool.and_eq_true] at hb2
          obtain ⟨hcj, hlen⟩ := hb2
          cases Nat.eq_of_beq_eq_true hcj
          rw [mset_eq] at h
          rw [if_pos (show kf < fs.length from Nat.le_of_ble_eq_true hlen)] at h
          obtain ⟨rfl, rfl, rfl⟩ := wset_some h
          split at hc
          · rename_i index ci9 kf9 n9 t9 hx
            cases hx
            split at hc
            · rename_i C T N hcl
              simp only [Bool.and_eq_true] at hc
              obtain ⟨⟨⟨⟨⟨h1, h2⟩, h3⟩, h4⟩, h5⟩, hl⟩ := hc
              cases Nat.eq_of_beq_eq_true hl
              have hnf : (∀ z, narrow (tyf ci kf) (cz z u) = cz z u) ∧ ∀ z, fits (tyf ci kf) (cz z u) = true := by
                cases ht : Nat.beq t 0 with
                | true =>
                  rw [ht] at h5
                  simp only [cond_true, decide_eq_true_eq] at h5
                  have h0 := Nat.eq_of_beq_eq_true ht
                  subst h0
                  rw [h5]
                  cases u with
                  | int a => exact ⟨fun _ => rfl, fun _ => rfl⟩
                  | _ => exact absurd hu (by simp [vkt])
                | false =>
                  rw [ht] at h5
                  simp only [cond_false] at h5
                  cases ht2 : Nat.beq t 2 with
                  | true =>
                    rw [ht2] at h5
                    simp only [cond_true, Bool.or_eq_true, decide_eq_true_eq] at h5
                    have h0 := Nat.eq_of_beq_eq_true ht2
                    subst h0
                    cases u with
                    | int a =>
                      have ha : a = 0 ∨ a = 1 := by simpa [vkt] using hu
                      rcases h5 with h5 | h5 <;> rcases ha with rfl | rfl <;> (rw [h5]; exact ⟨fun _ => rfl, fun _ => rfl⟩)
                    | _ => exact absurd hu (by simp [vkt])
                  | false =>
                    rw [ht2] at h5
                    simp only [cond_false] at h5
                    cases u with
                    | int a => exact absurd hu (by simp only [vkt]; rw [ht, ht2]; simp)
                    | ref a =>
                      cases hty : tyf ci kf with
                      | object n => exact ⟨fun _ => rfl, fun _ => rfl⟩
                      | array n => exact ⟨fun _ => rfl, fun _ => rfl⟩
                      | _ => rw [hty] at h5; cases h5
                    | null =>
                      cases hty : tyf ci kf with
                      | object n => exact ⟨fun _ => rfl, fun _ => rfl⟩
                      | array n => exact ⟨fun _ => rfl, fun _ => rfl⟩
                      | _ => rw [hty] at h5; cases h5
                    | _ => exact absurd hu (by simp [vkt])
              exact (by simp only [Bool.and_eq_true, decide_eq_true_eq] at h4; exact o_putfieldF hX hcl h2 (Nat.le_of_ble_eq_true h1) h4.1.1 h4.1.2 h4.2 (wck_1 h3) (wck_2 h3) hq hg hnf.1 hnf.2 (Nat.le_of_ble_eq_true hlen) hd kk)
            · cases hc
          · cases hc
        | false => rw [hb2] at h; cases h
      · cases h
    | false => rw [hb] at h; cases h
  · cases h
def ck_alen : mCk := fun _ i len _ _ => decide (i = .arraylength) && Nat.beq len 1
def sf_alen : mSf := fun RO _ _ L st W9 => match st with
  | .ref q :: r => (match mget RO W9 q with
    | some (.inl (t, n, _)) => bif Nat.blt t 4 then some (L, .int (Int32.ofNat n) :: r, W9) else none
    | _ => none)
  | _ => none
theorem sim_alen : SimS (ck_alen, sf_alen) := by
  intro X cells slots ad L st W9 pc nx i len x v L' st' W' hX hY hro hce hsl hd hnx hc h kk
  subst hnx
  simp only [ck_alen, sf_alen] at hc h
  simp only [Bool.and_eq_true, decide_eq_true_eq] at hc
  obtain ⟨rfl, hl⟩ := hc
  cases Nat.eq_of_beq_eq_true hl
  split at h
  · split at h
    · rename_i t n a hg
      cases hb : Nat.blt t 4 with
      | true =>
        rw [hb] at h
        cases h
        exact o_alen hX (Nat.le_of_ble_eq_true hb) hg hd kk
      | false => rw [hb] at h; cases h
    · cases h
  · cases h
def ck_mmax : mCk := fun k i len x _ => match i, x with
  | .invokestatic index, [n1, n2, n3, n4] => wck n1 (.methodLink (mnm k).cls index Lib.Math.max.name) && wck n2 (.static Lib.Math.max.name) && wck n3 (.initialized "java/lang/Math") && wck n4 (.code Lib.Math.max.name Lib.Math.max.code 2 (some .int)) && Nat.beq len 3
  | _, _ => false
def sf_mmax : mSf := fun _ _ _ L st W9 => match st with
  | .int y :: .int x :: r => bif mcs r then some (L, .int (if x < y then y else x) :: r, W9) else none
  | _ => none
theorem sim_mmax : SimS (ck_mmax, sf_mmax) := by
  intro X cells slots ad L st W9 pc nx i len x v L' st' W' hX hY hro hce hsl hd hnx hc h kk
  subst hnx
  simp only [ck_mmax, sf_mmax] at hc h
  split at h
  · rename_i r
    cases hb : mcs r with
    | true =>
      rw [hb] at h
      cases h
      split at hc
      · simp only [Bool.and_eq_true] at hc
        obtain ⟨⟨⟨⟨h1, h2⟩, h3⟩, h4⟩, hl⟩ := hc
        cases Nat.eq_of_beq_eq_true hl
        exact o_mmax hX (wck_1 h1) (wck_2 h1) (wck_1 h2) (wck_2 h2) (wck_1 h3) (wck_2 h3) (wck_1 h4) (wck_2 h4) hb hce hsl hd kk
      · cases hc
    | false => rw [hb] at h; cases h
  · cases h
def ck_mmin : mCk := fun k i len x _ => match i, x with
  | .invokestatic index, [n1, n2, n3, n4] => wck n1 (.methodLink (mnm k).cls index Lib.Math.min.name) && wck n2 (.static Lib.Math.min.name) && wck n3 (.initialized "java/lang/Math") && wck n4 (.code Lib.Math.min.name Lib.Math.min.code 2 (some .int)) && Nat.beq len 3
  | _, _ => false
def sf_mmin : mSf := fun _ _ _ L st W9 => match st with
  | .int y :: .int x :: r => bif mcs r then some (L, .int (if y < x then y else x) :: r, W9) else none
  | _ => none
theorem sim_mmin : SimS (ck_mmin, sf_mmin) := by
  intro X cells slots ad L st W9 pc nx i len x v L' st' W' hX hY hro hce hsl hd hnx hc h kk
  subst hnx
  simp only [ck_mmin, sf_mmin] at hc h
  split at h
  · rename_i r
    cases hb : mcs r with
    | true =>
      rw [hb] at h
      cases h
      split at hc
      · simp only [Bool.and_eq_true] at hc
        obtain ⟨⟨⟨⟨h1, h2⟩, h3⟩, h4⟩, hl⟩ := hc
        cases Nat.eq_of_beq_eq_true hl
        exact o_mmin hX (wck_1 h1) (wck_2 h1) (wck_1 h2) (wck_2 h2) (wck_1 h3) (wck_2 h3) (wck_1 h4) (wck_2 h4) hb hce hsl hd kk
      · cases hc
    | false => rw [hb] at h; cases h
  · cases h
def ck_mabs : mCk := fun k i len x _ => match i, x with
  | .invokestatic index, [n1, n2, n3, n4] => wck n1 (.methodLink (mnm k).cls index Lib.Math.abs.name) && wck n2 (.static Lib.Math.abs.name) && wck n3 (.initialized "java/lang/Math") && wck n4 (.code Lib.Math.abs.name Lib.Math.abs.code 1 (some .int)) && Nat.beq len 3
  | _, _ => false
def sf_mabs : mSf := fun _ _ _ L st W9 => match st with
  | .int x :: r => bif mcs r then some (L, .int (if 0 ≤ x then x else 0 - x) :: r, W9) else none
  | _ => none
theorem sim_mabs : SimS (ck_mabs, sf_mabs) := by
  intro X cells slots ad L st W9 pc nx i len x v L' st' W' hX hY hro hce hsl hd hnx hc h kk
  subst hnx
  simp only [ck_mabs, sf_mabs] at hc h
  split at h
  · rename_i r
    cases hb : mcs r with
    | true =>
      rw [hb] at h
      cases h
      split at hc
      · simp only [Bool.and_eq_true] at hc
        obtain ⟨⟨⟨⟨h1, h2⟩, h3⟩, h4⟩, hl⟩ := hc
        cases Nat.eq_of_beq_eq_true hl
        exact o_mabs hX (wck_1 h1) (wck_2 h1) (wck_1 h2) (wck_2 h2) (wck_1 h3) (wck_2 h3) (wck_1 h4) (wck_2 h4) hb hce hsl hd kk
      · cases hc
    | false => rw [hb] at h; cases h
  · cases h
def ck_objInit : mCk := fun k i len x _ => match i, x with
  | .invokespecial index, [n1, n2, n3] => wck n1 (.methodLink (mnm k).cls index Lib.objectInit) && wck n2 (.instanceMethod Lib.objectInit) && wck n3 (.code Lib.objectInit ⟨#[0xb1]⟩ 1 none) && Nat.beq len 3
  | _, _ => false
def sf_objInit : mSf := fun _ _ _ L st W9 => match st with
  | .ref _ :: r => bif mcs r then some (L, r, W9) else none
  | _ => none
theorem sim_objInit : SimS (ck_objInit, sf_objInit) := by
  intro X cells slots ad L st W9 pc nx i len x v L' st' W' hX hY hro hce hsl hd hnx hc h kk
  subst hnx
  simp only [ck_objInit, sf_objInit] at hc h
  split at h
  · rename_i q r
    cases hb : mcs r with
    | true =>
      rw [hb] at h
      cases h
      split at hc
      · simp only [Bool.and_eq_true] at hc
        obtain ⟨⟨⟨h1, h2⟩, h3⟩, hl⟩ := hc
        cases Nat.eq_of_beq_eq_true hl
        exact o_objInit hX (wck_1 h1) (wck_2 h1) (wck_1 h2) (wck_2 h2) (wck_1 h3) (wck_2 h3) hb hd kk
      · cases hc
    | false => rw [hb] at h; cases h
  · cases h
def ck_ixor : mCk := fun _ i len _ _ => decide (i = .ixor) && Nat.beq len 1
def sf_ixor : mSf := fun _ _ _ L st W9 => match st with
  | .int y :: .int x :: r => some (L, .int (x ^^^ y) :: r, W9)
  | _ => none
theorem sim_ixor : SimS (ck_ixor, sf_ixor) := by
  intro X cells slots ad L st W9 pc nx i len x v L' st' W' hX hY hro hce hsl hd hnx hc h kk
  subst hnx
  simp only [ck_ixor, sf_ixor] at hc h
  simp only [Bool.and_eq_true, decide_eq_true_eq] at hc
  obtain ⟨rfl, hl⟩ := hc
  cases Nat.eq_of_beq_eq_true hl
  split at h
  · cases h
    exact o_ixor hX hd kk
  · cases h
def ck_ladd : mCk := fun _ i len _ _ => decide (i = .ladd) && Nat.beq len 1
def sf_ladd : mSf := fun _ _ _ L st W9 => match st with
  | .long y :: .long x :: r => some (L, .long (x + y) :: r, W9)
  | _ => none
theorem sim_ladd : SimS (ck_ladd, sf_ladd) := by
  intro X cells slots ad L st W9 pc nx i len x v L' st' W' hX hY hro hce hsl hd hnx hc h kk
  subst hnx
  simp only [ck_ladd, sf_ladd] at hc h
  simp only [Bool.and_eq_true, decide_eq_true_eq] at hc
  obtain ⟨rfl, hl⟩ := hc
  cases Nat.eq_of_beq_eq_true hl
  split at h
  · cases h
    exact o_ladd hX hd kk
  · cases h
def ck_lmul : mCk := fun _ i len _ _ => decide (i = .lmul) && Nat.beq len 1
def sf_lmul : mSf := fun _ _ _ L st W9 => match st with
  | .long y :: .long x :: r => some (L, .long (x * y) :: r, W9)
  | _ => none
theorem sim_lmul : SimS (ck_lmul, sf_lmul) := by
  intro X cells slots ad L st W9 pc nx i len x v L' st' W' hX hY hro hce hsl hd hnx hc h kk
  subst hnx
  simp only [ck_lmul, sf_lmul] at hc h
  simp only [Bool.and_eq_true, decide_eq_true_eq] at hc
  obtain ⟨rfl, hl⟩ := hc
  cases Nat.eq_of_beq_eq_true hl
  split at h
  · cases h
    exact o_lmul hX hd kk
  · cases h
def ck_lstore : mCk := fun k i len x _ => match i, x with
  | .lstore j, [n] => Nat.beq j n && Nat.beq len 2 && Nat.blt (n + 1) (mml k)
  | .lstore_n j, [n] => Nat.beq j n && Nat.beq len 1 && Nat.blt (n + 1) (mml k)
  | _, _ => false
def sf_lstore : mSf := fun _ x _ L st W9 => match x, st with
  | [n], .long a :: r => bif okp L n then mset L n (.long a) (fun l => mset l (n + 1) (.retAddr 0) (fun l => some (l, r, W9)) none) none else none
  | _, _ => none
theorem sim_lstore : SimS (ck_lstore, sf_lstore) := by
  intro X cells slots ad L st W9 pc nx i len x v L' st' W' hX hY hro hce hsl hd hnx hc h kk
  subst hnx
  simp only [ck_lstore, sf_lstore] at hc h
  split at h
  · rename_i n a r
    cases hb : okp L n with
    | true =>
      rw [hb] at h
      have h9 : mset L n (.long a) (fun l => mset l (n + 1) (.retAddr 0) (fun l => some (l, r, W9)) none) none = some (L', st', W') := h
      rw [mset_eq] at h9
      by_cases hi : n < L.length
      · rw [if_pos hi] at h9
        obtain ⟨rfl, rfl, rfl⟩ := lset_some h9
        split at hc
        · rename_i hx
          cases hx
          simp only [Bool.and_eq_true] at hc
          obtain ⟨⟨h1, hl⟩, hm⟩ := hc
          cases Nat.eq_of_beq_eq_true hl
          cases Nat.eq_of_beq_eq_true h1
          exact o_lstore hX hb (Nat.le_of_ble_eq_true hm) hd kk
        · rename_i hx
          cases hx
          simp only [Bool.and_eq_true] at hc
          obtain ⟨⟨h1, hl⟩, hm⟩ := hc
          cases Nat.eq_of_beq_eq_true hl
          exact o_lstore_n hX (Nat.eq_of_beq_eq_true h1) hb (Nat.le_of_ble_eq_true hm) hd kk
        · cases hc
      · rw [if_neg hi] at h9; cases h9
    | false => rw [hb] at h; cases h
  · cases h
def ck_lconst0 : mCk := fun _ i len _ _ => decide (i = .lconst 0) && Nat.beq len 1
def sf_lconst0 : mSf := fun _ _ _ L st W9 => some (L, .long 0 :: st, W9)
theorem sim_lconst0 : SimS (ck_lconst0, sf_lconst0) := by
  intro X cells slots ad L st W9 pc nx i len x v L' st' W' hX hY hro hce hsl hd hnx hc h kk
  subst hnx
  simp only [ck_lconst0, sf_lconst0] at hc h
  simp only [Bool.and_eq_true, decide_eq_true_eq] at hc
  obtain ⟨rfl, hl⟩ := hc
  cases Nat.eq_of_beq_eq_true hl
  cases h
  obtain ⟨p, l, e, R, s, m, args, below, meth, c, Q, A, dC, dI, dA, adR, RO, k⟩ := X
  obtain ⟨hx, hb, hml, hown, ⟨hwA, hwN⟩, hA, hK, hRO, hROA, hlk, hrt, hfr, hlo, hini⟩ := hX
  intro H locs ls hP hD hS hn hw hL hs hl
  exact lv_lconst hx hb hd (v := 0) (by decide) (kk H locs ls hP hD hS hn hw hL (wv_cons (fun _ e => by cases e) hs) hl)
def mSt : List (mCk × mSf) := [(ck_iadd, sf_iadd), (ck_isub, sf_isub), (ck_imul, sf_imul), (ck_iand, sf_iand), (ck_ior, sf_ior), (ck_ishl, sf_ishl), (ck_ishr, sf_ishr), (ck_iushr, sf_iushr), (ck_ineg, sf_ineg), (ck_i2b, sf_i2b), (ck_i2c, sf_i2c), (ck_i2l, sf_i2l), (ck_i2f, sf_i2f), (ck_i2d, sf_i2d), (ck_lcmp, sf_lcmp), (ck_fcmp, sf_fcmp), (ck_dcmp, sf_dcmp), (ck_iconst, sf_iconst), (ck_bipush, sf_bipush), (ck_sipush, sf_sipush), (ck_fconst0, sf_fconst0), (ck_dconst0, sf_dconst0), (ck_ldcS, sf_ldcS), (ck_dup, sf_dup), (ck_pop, sf_pop), (ck_dup_x1, sf_dup_x1), (ck_dup2, sf_dup2), (ck_iload, sf_iload), (ck_aload, sf_aload), (ck_fload, sf_fload), (ck_dload, sf_dload), (ck_lload, sf_lload), (ck_istore, sf_istore), (ck_astore, sf_astore), (ck_fstore, sf_fstore), (ck_dstore, sf_dstore), (ck_iinc, sf_iinc), (ck_getfield, sf_getfield), (ck_getfieldN, sf_getfieldN), (ck_putfield, sf_putfield), (ck_putfieldN, sf_putfieldN), (ck_putfieldF, sf_putfieldF), (ck_alen, sf_alen), (ck_mmax, sf_mmax), (ck_mmin, sf_mmin), (ck_mabs, sf_mabs), (ck_objInit, sf_objInit), (ck_ixor, sf_ixor), (ck_ladd, sf_ladd), (ck_lmul, sf_lmul), (ck_lstore, sf_lstore), (ck_lconst0, sf_lconst0)]
theorem mSt_ok : ∀ q ∈ mSt, SimS q := List.forall_mem_cons.mpr ⟨sim_iadd, List.forall_mem_cons.mpr ⟨sim_isub, List.forall_mem_cons.mpr ⟨sim_imul, List.forall_mem_cons.mpr ⟨sim_iand, List.forall_mem_cons.mpr ⟨sim_ior, List.forall_mem_cons.mpr ⟨sim_ishl, List.forall_mem_cons.mpr ⟨sim_ishr, List.forall_mem_cons.mpr ⟨sim_iushr, List.forall_mem_cons.mpr ⟨sim_ineg, List.forall_mem_cons.mpr ⟨sim_i2b, List.forall_mem_cons.mpr ⟨sim_i2c, List.forall_mem_cons.mpr ⟨sim_i2l, List.forall_mem_cons.mpr ⟨sim_i2f, List.forall_mem_cons.mpr ⟨sim_i2d, List.forall_mem_cons.mpr ⟨sim_lcmp, List.forall_mem_cons.mpr ⟨sim_fcmp, List.forall_mem_cons.mpr ⟨sim_dcmp, List.forall_mem_cons.mpr ⟨sim_iconst, List.forall_mem_cons.mpr ⟨sim_bipush, List.forall_mem_cons.mpr ⟨sim_sipush, List.forall_mem_cons.mpr ⟨sim_fconst0, List.forall_mem_cons.mpr ⟨sim_dconst0, List.forall_mem_cons.mpr ⟨sim_ldcS, List.forall_mem_cons.mpr ⟨sim_dup, List.forall_mem_cons.mpr ⟨sim_pop, List.forall_mem_cons.mpr ⟨sim_dup_x1, List.forall_mem_cons.mpr ⟨sim_dup2, List.forall_mem_cons.mpr ⟨sim_iload, List.forall_mem_cons.mpr ⟨sim_aload, List.forall_mem_cons.mpr ⟨sim_fload, List.forall_mem_cons.mpr ⟨sim_dload, List.forall_mem_cons.mpr ⟨sim_lload, List.forall_mem_cons.mpr ⟨sim_istore, List.forall_mem_cons.mpr ⟨sim_astore, List.forall_mem_cons.mpr ⟨sim_fstore, List.forall_mem_cons.mpr ⟨sim_dstore, List.forall_mem_cons.mpr ⟨sim_iinc, List.forall_mem_cons.mpr ⟨sim_getfield, List.forall_mem_cons.mpr ⟨sim_getfieldN, List.forall_mem_cons.mpr ⟨sim_putfield, List.forall_mem_cons.mpr ⟨sim_putfieldN, List.forall_mem_cons.mpr ⟨sim_putfieldF, List.forall_mem_cons.mpr ⟨sim_alen, List.forall_mem_cons.mpr ⟨sim_mmax, List.forall_mem_cons.mpr ⟨sim_mmin, List.forall_mem_cons.mpr ⟨sim_mabs, List.forall_mem_cons.mpr ⟨sim_objInit, List.forall_mem_cons.mpr ⟨sim_ixor, List.forall_mem_cons.mpr ⟨sim_ladd, List.forall_mem_cons.mpr ⟨sim_lmul, List.forall_mem_cons.mpr ⟨sim_lstore, List.forall_mem_cons.mpr ⟨sim_lconst0, fun _ h => absurd h List.not_mem_nil⟩⟩⟩⟩⟩⟩⟩⟩⟩⟩⟩⟩⟩⟩⟩⟩⟩⟩⟩⟩⟩⟩⟩⟩⟩⟩⟩⟩⟩⟩⟩⟩⟩⟩⟩⟩⟩⟩⟩⟩⟩⟩⟩⟩⟩⟩⟩⟩⟩⟩⟩⟩
