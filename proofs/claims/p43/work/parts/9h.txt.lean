/-! a written text is read as it was meant -/
theorem rt_at {P : Nat → Bool} {n : Nat} : ∀ len s, (∀ i, i < len → s + i < n ∧ P (s + i) = true) → (n ≤ s + len ∨ P (s + len) = false) → rt P n s = s + len := by
  intro len
  induction len with
  | zero => intro s _ h; exact rt_stop h
  | succ len ih =>
    intro s h1 h2
    have h0 := h1 0 (by omega)
    rw [Nat.add_zero] at h0
    rw [rt_step h0.1 h0.2, ih (s + 1) (fun i hi => by have := h1 (i + 1) (by omega); rwa [show s + (i + 1) = s + 1 + i by omega] at this) (by rwa [show s + (len + 1) = s + 1 + len by omega] at h2)]
    omega
def Suf (B : Nat → Nat) (n e : Nat) (l : List Nat) : Prop := n = e + l.length ∧ ∀ i, i < l.length → B (e + i) = l.getD i 0
section TXT
variable {B : Nat → Nat} {n e m S t : Nat} {lr : Bool} {N : Nat → Int32} {l r : List Nat} {x : Nat}
theorem Suf.app (h : Suf B n e (l ++ r)) : (∀ i, i < l.length → e + i < n ∧ B (e + i) = l.getD i 0) ∧ Suf B n (e + l.length) r := by
  obtain ⟨h1, h2⟩ := h
  rw [List.length_append] at h1 h2
  refine ⟨fun i hi => ⟨by omega, ?_⟩, by omega, fun i hi => ?_⟩
  · rw [h2 i (by omega), List.getD_eq_getElem?_getD, List.getD_eq_getElem?_getD, List.getElem?_append_left hi]
  · rw [Nat.add_assoc, h2 (l.length + i) (by omega), List.getD_eq_getElem?_getD, List.getD_eq_getElem?_getD, List.getElem?_append_right (by omega), Nat.add_sub_cancel_left]
theorem Suf.cons (h : Suf B n e (x :: r)) : e < n ∧ B e = x ∧ Suf B n (e + 1) r := by
  have h9 := Suf.app (l := [x]) (r := r) h
  have h0 := h9.1 0 (by show 0 < 1; omega)
  exact ⟨h0.1, h0.2, h9.2⟩
def stp (k : Nat) (r : List Nat) : Prop := ∀ y r', r = y :: r' → ¬ kd y = k
theorem Suf.stop {k : Nat} (h : Suf B n e r) (hr : stp k r) : n ≤ e ∨ Nat.beq (kd (B e)) k = false := by
  cases r with
  | nil => exact Or.inl (by have := h.1; simp at this; omega)
  | cons y r' =>
    right
    rw [(Suf.cons h).2.1]
    cases hb : Nat.beq (kd y) k with
    | false => rfl
    | true => exact absurd (Nat.eq_of_beq_eq_true hb) (hr y r' rfl)
theorem skp0 (h : Suf B n e (x :: r)) (hx : blk x = false) : skp B n e = e := rt_stop (Or.inr (by show blk (B e) = false; rw [(Suf.cons h).2.1]; exact hx))
theorem skp1 (h : Suf B n e (32 :: x :: r)) (hx : blk x = false) : skp B n e = e + 1 := by
  obtain ⟨h1, h2, h3⟩ := Suf.cons h
  rw [skp, rt_step h1 (by show blk (B e) = true; rw [h2]; rfl)]
  exact skp0 h3 hx
theorem skpE (h : Suf B n e []) : skp B n e = n := by
  have := h.1
  rw [List.length_nil, Nat.add_zero] at this
  subst this
  exact rt_stop (Or.inl (Nat.le_refl _))
theorem run_at {k s : Nat} {w : List Nat} (h : Suf B n s (w ++ r)) (hw : ∀ y ∈ w, kd y = k) (hr : stp k r) : run B n k s = s + w.length := by
  obtain ⟨h1, h2⟩ := Suf.app h
  refine rt_at w.length s (fun i hi => ⟨(h1 i hi).1, ?_⟩) (h2.stop hr)
  show Nat.beq (kd (B (s + i))) k = true
  rw [(h1 i hi).2, hw _ (by rw [List.getD_eq_getElem?_getD, List.getElem?_eq_getElem hi]; exact List.getElem_mem hi)]
  exact Nat.beq_refl k
theorem tk_word {w : List Nat} (hs : Suf B n (skp B n e) (w ++ r)) (hw : ∀ y ∈ w, kd y = 1) (h0 : w ≠ []) (hr : stp 1 r) (hl : gl B n e lr = false) : tokK B n e lr = 1 ∧ tokE B n e = skp B n e + w.length := by
  cases w with
  | nil => exact absurd rfl h0
  | cons y w =>
    have h1 := Suf.cons (x := y) (r := w ++ r) hs
    have h2 := tokK_1 (B := B) (n := n) (e := e) (lr := lr) (by omega) (by rw [h1.2.1]; exact hw y List.mem_cons_self)
    rw [hl] at h2
    exact ⟨h2.1, h2.2.trans (run_at hs hw hr)⟩
def digN (a : Nat) : List Nat := if a < 10 then [48 + a] else if a < 100 then [48 + a / 10, 48 + a % 10] else [48 + a / 100, 48 + a / 10 % 10, 48 + a % 10]
theorem digN_map {a : Nat} : (digN a).map Int32.ofNat = digs a := by
  rw [digN, digs]
  split
  · rfl
  · split <;> rfl
theorem digN_3 {a : Nat} : (digN a).length ≤ 3 ∧ 1 ≤ (digN a).length := by
  rw [digN]
  split
  · simp
  · split <;> simp
theorem kd_dig {y : Nat} (h1 : 48 ≤ y) (h2 : y ≤ 57) : kd y = 2 := by
  rw [kd, if_neg (by omega), if_pos ⟨h1, h2⟩]
theorem digN_kd {a : Nat} (ha : a < 1000) : ∀ y ∈ digN a, kd y = 2 := by
  intro y hy
  rw [digN] at hy
  split at hy
  · cases List.mem_singleton.mp hy
    exact kd_dig (by omega) (by omega)
  · split at hy
    · rcases List.mem_cons.mp hy with rfl | hy
      · exact kd_dig (by omega) (by omega)
      · cases List.mem_singleton.mp hy
        exact kd_dig (by omega) (by omega)
    · rcases List.mem_cons.mp hy with rfl | hy
      · exact kd_dig (by omega) (by omega)
      · rcases List.mem_cons.mp hy with rfl | hy
        · exact kd_dig (by omega) (by omega)
        · cases List.mem_singleton.mp hy
          exact kd_dig (by omega) (by omega)
theorem x_dig {a b : Nat} : Int32.ofNat a * 10 + Int32.ofNat (48 + b) - 48 = Int32.ofNat (10 * a + b) := by
  rw [show (10 : Int32) = Int32.ofNat 10 from rfl, show (48 : Int32) = Int32.ofNat 48 from rfl, i_mul, i_add, i_sub (by omega)]
  exact congrArg Int32.ofNat (by omega)
theorem nmV_dig {a s : Nat} (ha : a < 1000) (h : ∀ i, i < (digN a).length → B (s + i) = (digN a).getD i 0) : nmV B s (digN a).length = Int32.ofNat a := by
  have x1 : ∀ b : Nat, (0 : Int32) * 10 + Int32.ofNat (48 + b) - 48 = Int32.ofNat b := fun b => (x_dig (a := 0) (b := b)).trans (congrArg Int32.ofNat (by omega))
  revert h
  rw [digN]
  split
  · intro h
    have h0 := h 0 (by show 0 < 1; omega)
    show nmV B s 0 * 10 + Int32.ofNat (B (s + 0)) - 48 = _
    rw [h0]
    exact x1 a
  · split
    · intro h
      have h0 := h 0 (by show 0 < 2; omega)
      have h1 := h 1 (by show 1 < 2; omega)
      show (nmV B s 0 * 10 + Int32.ofNat (B (s + 0)) - 48) * 10 + Int32.ofNat (B (s + 1)) - 48 = _
      rw [h0, h1]
      show ((0 : Int32) * 10 + Int32.ofNat (48 + a / 10) - 48) * 10 + Int32.ofNat (48 + a % 10) - 48 = _
      rw [x1, x_dig]
      exact congrArg Int32.ofNat (by omega)
    · intro h
      have h0 := h 0 (by show 0 < 3; omega)
      have h1 := h 1 (by show 1 < 3; omega)
      have h2 := h 2 (by show 2 < 3; omega)
      show ((nmV B s 0 * 10 + Int32.ofNat (B (s + 0)) - 48) * 10 + Int32.ofNat (B (s + 1)) - 48) * 10 + Int32.ofNat (B (s + 2)) - 48 = _
      rw [h0, h1, h2]
      show (((0 : Int32) * 10 + Int32.ofNat (48 + a / 100) - 48) * 10 + Int32.ofNat (48 + a / 10 % 10) - 48) * 10 + Int32.ofNat (48 + a % 10) - 48 = _
      rw [x1, x_dig, x_dig]
      exact congrArg Int32.ofNat (by omega)
theorem tk_num {a : Nat} (ha : a < 1000) (hs : Suf B n (skp B n e) (digN a ++ r)) (hr : stp 2 r) (hl : gl B n e lr = false) : tokK B n e lr = 2 ∧ tokE B n e = skp B n e + (digN a).length ∧ numV B n e = Int32.ofNat a := by
  have hd := digN_3 (a := a)
  obtain ⟨f1, f2⟩ := Suf.app hs
  have g0 := f1 0 (by omega)
  have k2 : kd (B (skp B n e)) = 2 := by
    have := g0.2
    rw [Nat.add_zero] at this
    rw [this]
    exact digN_kd ha _ (by rw [List.getD_eq_getElem?_getD, List.getElem?_eq_getElem (show 0 < (digN a).length by omega)]; exact List.getElem_mem _)
  have h2 := tokK_2 (B := B) (n := n) (e := e) (lr := lr) (by omega) k2
  have hrun := run_at hs (digN_kd ha) hr
  rw [hl, hrun, Nat.add_sub_cancel_left, if_neg (by decide), if_neg (by omega)] at h2
  refine ⟨h2.1, h2.2, ?_⟩
  rw [numV, h2.2, Nat.add_sub_cancel_left]
  exact nmV_dig ha (fun i hi => (f1 i hi).2)
theorem dig_head {a : Nat} (ha : a < 1000) : ∃ y l', digN a = y :: l' ∧ blk y = false := by
  have hd := digN_3 (a := a)
  have hk := digN_kd ha
  cases h : digN a with
  | nil => rw [h] at hd; exact absurd hd.2 (by decide)
  | cons y l' =>
    refine ⟨y, l', rfl, ?_⟩
    have h9 := hk y (by rw [h]; exact List.mem_cons_self)
    cases hb : blk y with
    | false => rfl
    | true =>
      rw [blk, Bool.or_eq_true] at hb
      rcases hb with hb | hb
      · rw [Nat.eq_of_beq_eq_true hb] at h9; exact absurd h9 (by decide)
      · rw [Nat.eq_of_beq_eq_true hb] at h9; exact absurd h9 (by decide)
theorem gl_no (h : skp B n e = e + 1) : gl B n e lr = false := by
  rw [gl, h]
  cases lr with
  | false => rfl
  | true =>
    cases hb : Nat.beq (e + 1) e with
    | false => rfl
    | true => exact absurd (Nat.eq_of_beq_eq_true hb) (by omega)
theorem p_num {a : Nat} {lo hi : Int32} (ha : a < 1000) (h : Suf B n e (32 :: (digN a ++ r))) (hr : stp 2 r) (hlo : ¬ Int32.ofNat a < lo) (hhi : ¬ hi < Int32.ofNat a) : ∃ e', pNum B n e lr lo hi = .inr (Int32.ofNat a, e') ∧ Suf B n e' r := by
  obtain ⟨y, l', e1, e2⟩ := dig_head ha
  have hs : skp B n e = e + 1 := by rw [e1] at h; exact skp1 h e2
  have h1 := (Suf.cons h).2.2
  obtain ⟨k1, k2, k3⟩ := tk_num (lr := lr) ha (by rw [hs]; exact h1) hr (gl_no hs)
  refine ⟨tokE B n e, ?_, by rw [k2, hs]; exact (Suf.app h1).2⟩
  rw [pNum, if_pos k1, k3, if_pos (inB_mid hlo hhi)]
def wEq (q q' : Nat) : Bool := Nat.beq (wdL q).length (wdL q').length && (List.range (wdL q').length).all (fun i => Nat.beq ((wdL q).getD i 0) ((wdL q').getD i 0))
theorem isW_c {s q q' : Nat} (h : Suf B n s (wdL q ++ r)) : isW B s (s + (wdL q).length) q' = wEq q q' := by
  rw [isW, wEq, Nat.add_sub_cancel_left]
  cases hb : Nat.beq (wdL q).length (wdL q').length with
  | false => rw [Bool.false_and, Bool.false_and]
  | true =>
    rw [Bool.true_and, Bool.true_and]
    have hl := Nat.eq_of_beq_eq_true hb
    have key : ∀ L : List Nat, (∀ i ∈ L, i < (wdL q').length) → L.all (fun i => Nat.beq (B (s + i)) ((wdL q').getD i 0)) = L.all (fun i => Nat.beq ((wdL q).getD i 0) ((wdL q').getD i 0)) := by
      intro L
      induction L with
      | nil => intro _; rfl
      | cons i L ih =>
        intro hL
        rw [List.all_cons, List.all_cons, ih (fun j hj => hL j (List.mem_cons_of_mem _ hj)), ((Suf.app h).1 i (by rw [hl]; exact hL i List.mem_cons_self)).2]
    exact key _ (fun i hi => List.mem_range.mp hi)
theorem wd_kd : ∀ q, q < 15 → (wdL q ≠ [] ∧ (∀ y ∈ wdL q, kd y = 1) ∧ blk ((wdL q).getD 0 0) = false) := by
  intro q hq
  have h : ∀ q, q < 15 → (!(wdL q).isEmpty && (wdL q).all (fun y => Nat.beq (kd y) 1) && !blk ((wdL q).getD 0 0)) = true := by decide +kernel
  have h9 := h q hq
  rw [Bool.and_eq_true, Bool.and_eq_true, List.all_eq_true] at h9
  refine ⟨fun e => ?_, fun y hy => Nat.eq_of_beq_eq_true (h9.1.2 y hy), ?_⟩
  · rw [e] at h9; exact absurd h9.1.1 (by decide)
  · cases hb : blk ((wdL q).getD 0 0) with
    | false => rfl
    | true => rw [hb] at h9; exact absurd h9.2 (by decide)
theorem wd_head {q : Nat} (hq : q < 15) : ∃ y l', wdL q = y :: l' ∧ blk y = false := by
  have h := wd_kd q hq
  cases hw : wdL q with
  | nil => exact absurd hw h.1
  | cons y l' => rw [hw] at h; exact ⟨y, l', rfl, h.2.2⟩
theorem stp_32 {k : Nat} (hk : k ≠ 4) : stp k (32 :: r) := by
  intro y r' h
  injection h with h1 h2
  subst h1
  intro h
  exact hk (h.symm.trans (by decide))
/-- what may stand behind a line -/
def lnE (r : List Nat) : Prop := r = [] ∨ ∃ r', r = 59 :: r'
theorem lnE.stp {k : Nat} (h : lnE r) (hk : k ≠ 3) : stp k r := by
  intro y r' e
  rcases h with h | ⟨r2, h⟩
  · rw [h] at e; cases e
  · rw [h] at e
    injection e with e1 e2
    subst e1
    intro h
    exact hk (h.symm.trans (by decide))
/-- a word right behind a semicolon or at the start -/
theorem p_word0 {q : Nat} (hq : q < 15) (h : Suf B n e (wdL q ++ (32 :: r))) : tokK B n e false = 1 ∧ skp B n e = e ∧ tokE B n e = e + (wdL q).length ∧ Suf B n (e + (wdL q).length) (32 :: r) := by
  obtain ⟨y, l', e1, e2⟩ := wd_head hq
  have hs : skp B n e = e := by rw [e1] at h; exact skp0 h e2
  have hk := wd_kd q hq
  have h2 := tk_word (lr := false) (by rw [hs]; exact h) hk.2.1 hk.1 (stp_32 (by decide)) rfl
  exact ⟨h2.1, hs, h2.2.trans (by rw [hs]), (Suf.app h).2⟩
theorem p_kind {kd : Nat} (hk4 : kd < 4) (h : Suf B n e (32 :: (wdL (9 + kd) ++ (32 :: r)))) : ∃ e', pWord B n e lr 9 4 = .inr (kd, e') ∧ Suf B n e' (32 :: r) := by
  obtain ⟨y, l', e1, e2⟩ := wd_head (q := 9 + kd) (by omega)
  have hs : skp B n e = e + 1 := by rw [e1] at h; exact skp1 h e2
  have hk := wd_kd (9 + kd) (by omega)
  have h1 := (Suf.cons h).2.2
  have h2 := tk_word (lr := lr) (by rw [hs]; exact h1) hk.2.1 hk.1 (stp_32 (by decide)) (gl_no hs)
  refine ⟨tokE B n e, (pWord_at hk4 (fun j hj => ?_) ?_).1, by rw [h2.2, hs]; exact (Suf.app h1).2⟩
  · rw [h2.2, hs, isW_c h1, Bool.and_eq_false_iff]
    right
    have : ∀ k, k < 4 → ∀ j, j < k → wEq (9 + k) (9 + j) = false := by decide +kernel
    exact this kd hk4 j hj
  · rw [h2.1, h2.2, hs, isW_c h1]
    have : ∀ k, k < 4 → (Nat.beq 1 1 && wEq (9 + k) (9 + k)) = true := by decide +kernel
    exact this kd hk4
end TXT
