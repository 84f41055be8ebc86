/-! the lines of a written text -/
def PS (N : Nat → Int32) (m S t : Nat) : Prop := rOk N m S t ∧ vOk N S ∧ N 6 = 0 ∧ ∀ i, i < m → N (15 + 8 * i + 2) = Int32.ofNat (97 + i)
abbrev LN := Nat × Nat × Nat × Nat
def lnT : LN → List Nat
  | (0, x, y, _) => wdL 1 ++ 32 :: (97 + x) :: 32 :: digN y
  | (1, x, y, z) => wdL 2 ++ 32 :: (wdL (9 + x) ++ 32 :: (digN y ++ 32 :: digN z))
  | (_, x, y, _) => wdL (3 + x) ++ 32 :: digN y
def lnS (l : LN) : List Nat := 59 :: lnT l
def lnsT : List LN → List Nat
  | [] => []
  | l :: r => lnS l ++ lnsT r
def mstN (x : Nat) : Nat := if x = 0 then 99 else if x = 1 then 9 else 24
def lnOk (m S t : Nat) : LN → Prop
  | (0, x, y, _) => x = m ∧ m < 6 ∧ 10 ≤ y ∧ y ≤ 300
  | (1, x, y, z) => S < 16 ∧ x < 4 ∧ 1 ≤ y ∧ y ≤ 99 ∧ z ≤ 999
  | (_, x, y, _) => t < 8 ∧ x < 3 ∧ 1 ≤ y ∧ y ≤ mstN x
def lnM : LN → Nat
  | (0, _) => 1
  | _ => 0
def lnK : LN → Nat
  | (1, _) => 1
  | _ => 0
def lnG : LN → Nat
  | (0, _) => 0
  | (1, _) => 0
  | _ => 1
def lnsOk (m S t : Nat) : List LN → Prop
  | [] => True
  | l :: r => lnOk m S t l ∧ lnsOk (m + lnM l) (S + lnK l) (t + lnG l) r
theorem lnsT_E (ls : List LN) : lnE (lnsT ls) := by
  cases ls with
  | nil => exact Or.inl rfl
  | cons l r => exact Or.inr ⟨lnT l ++ lnsT r, rfl⟩
section LNS
variable {B : Nat → Nat} {n e m S t : Nat} {N : Nat → Int32} {r : List Nat}
theorem i_nlt {a b : Nat} (ha : a < 1000000) (hb : b < 1000000) (h : b ≤ a) : ¬ Int32.ofNat a < Int32.ofNat b := by rw [i_lt ha hb]; omega
theorem wEqs : (wEq 2 1 = false ∧ wEq 3 1 = false ∧ wEq 3 2 = false ∧ wEq 4 1 = false ∧ wEq 4 2 = false ∧ wEq 4 3 = false) ∧ (wEq 5 1 = false ∧ wEq 5 2 = false ∧ wEq 5 3 = false ∧ wEq 5 4 = false) ∧ wEq 1 1 = true ∧ wEq 2 2 = true ∧ wEq 3 3 = true ∧ wEq 4 4 = true ∧ wEq 5 5 = true ∧ wEq 0 0 = true := by decide +kernel
theorem p_name1 {c : Nat} (hc : kd c = 1) (hb : blk c = false) (h : Suf B n e (32 :: c :: 32 :: r)) : pName B n e true = .inr (e + 1, e + 2) ∧ B (e + 1) = c ∧ Suf B n (e + 2) (32 :: r) := by
  have hs : skp B n e = e + 1 := skp1 h hb
  have h1 := (Suf.cons h).2.2
  have h2 := tk_word (w := [c]) (lr := true) (by rw [hs]; exact h1) (fun y hy => by cases List.mem_singleton.mp hy; exact hc) (by simp) (stp_32 (by decide)) (gl_no hs)
  have h3 := Suf.cons h1
  have e2 : tokE B n e = e + 2 := h2.2.trans (by rw [hs]; rfl)
  rw [pName, h2.1, e2, hs, if_pos ⟨rfl, by omega⟩]
  exact ⟨rfl, h3.2.1, h3.2.2⟩
theorem mulIx_new {s : Nat} (hm : m < 6) (hnm : ∀ i, i < m → N (15 + 8 * i + 2) = Int32.ofNat (97 + i)) (hs : B s = 97 + m) : ¬ mulIx B s (s + 1) N m < m := by
  intro h
  have h9 := (rt_ge (P := fun i => !nmEq B s (s + 1) N i) (n := m) m 0 (by omega)).2.2.2 h
  have h8 : nmEq B s (s + 1) N (mulIx B s (s + 1) N m) = true := by
    cases hb : nmEq B s (s + 1) N (mulIx B s (s + 1) N m) with
    | true => rfl
    | false =>
      have h9' : (!nmEq B s (s + 1) N (mulIx B s (s + 1) N m)) = false := h9
      rw [hb] at h9'
      exact absurd h9' (by decide)
  have h7 : N (15 + 8 * mulIx B s (s + 1) N m + 2) = Int32.ofNat (B s) := (nmEq_yes h8).2 0 (by omega)
  rw [hnm _ h, hs] at h7
  have := i_inj (by omega) (by omega) h7
  omega
theorem p_mule {x0 y : Nat} (hP : PS N m S t) (hm : m < 6) (hy : 10 ≤ y) (hy3 : y ≤ 300) (he : e ≤ n) (hr : lnE r) (h : Suf B n e (32 :: (97 + m) :: 32 :: (digN y ++ r))) : ∃ N' e', pMule B n x0 e N m S t = .inr (N', m + 1, S, t, e') ∧ PS N' (m + 1) S t ∧ Suf B n e' r := by
  have hkd : kd (97 + m) = 1 := by rw [kd, if_pos ⟨by omega, by omega⟩]
  have hbk : blk (97 + m) = false := by
    have : ∀ m, m < 6 → blk (97 + m) = false := by decide +kernel
    exact this m hm
  obtain ⟨q1, q2, q3⟩ := p_name1 hkd hbk h
  obtain ⟨e', n1, n2⟩ := p_num (lr := true) (a := y) (lo := 10) (hi := 300) (by omega) q3 (hr.stp (by decide)) (i_nlt (b := 10) (by omega) (by omega) hy) (i_nlt (a := 300) (by omega) (by omega) hy3)
  have hp : pMule B n x0 e N m S t = .inr (newMuleN B (e + 1) (e + 2) N m (Int32.ofNat y), m + 1, S, t, e') := by
    rw [pMule, if_neg (by omega), q1]
    show (if mulIx B (e + 1) (e + 2) N m < m then (.inl (4, e + 1) : PR) else _) = _
    rw [if_neg (mulIx_new hm hP.2.2.2 q2), n1]
  have lo : ∀ j, j < 15 + 8 * m → j ≠ 3 → newMuleN B (e + 1) (e + 2) N m (Int32.ofNat y) j = N j := fun j h1 h2 => nM_lo h1 h2
  have hi : ∀ j, 63 ≤ j → newMuleN B (e + 1) (e + 2) N m (Int32.ofNat y) j = N j := fun j h1 => nM_hi (by omega)
  refine ⟨_, e', hp, ⟨(ok_mule hP.1 he hp).1, vOk_congr (fun j hj => lo j (by omega) (by omega)) (fun k _ c _ _ _ => hi _ (by omega)) hP.2.1, (lo 6 (by omega) (by omega)).trans hP.2.2.1, fun i hi9 => ?_⟩, n2⟩
  by_cases e9 : i = m
  · subst e9
    have := nM_2 (B := B) (s := e + 1) (p := e + 2) (N := N) (m := i) (v := Int32.ofNat y) (j := 0) (by omega)
    rw [Nat.add_zero, if_pos (by omega), Nat.add_zero, q2] at this
    exact this
  · rw [lo _ (by omega) (by omega)]
    exact hP.2.2.2 i (by omega)
theorem p_sack {x0 x y z : Nat} (hP : PS N m S t) (hS : S < 16) (hx : x < 4) (hy : 1 ≤ y) (hy9 : y ≤ 99) (hz : z ≤ 999) (he : e ≤ n) (hr : lnE r) (h : Suf B n e (32 :: (wdL (9 + x) ++ 32 :: (digN y ++ 32 :: (digN z ++ r))))) : ∃ N' e', pSack B n x0 e N m S t = .inr (N', m, S + 1, t, e') ∧ PS N' m (S + 1) t ∧ Suf B n e' r := by
  obtain ⟨e1, q1, q2⟩ := p_kind (lr := true) hx h
  obtain ⟨e2, n1, n2⟩ := p_num (lr := true) (a := y) (lo := 1) (hi := 99) (by omega) q2 (stp_32 (by decide)) (i_nlt (b := 1) (by omega) (by omega) hy) (i_nlt (a := 99) (by omega) (by omega) hy9)
  obtain ⟨e3, w1, w2⟩ := p_num (lr := true) (a := z) (lo := 0) (hi := 999) (by omega) n2 (hr.stp (by decide)) (i_nonneg (by omega)) (i_nlt (a := 999) (by omega) (by omega) hz)
  have hp : pSack B n x0 e N m S t = .inr (bringsN N S (Int32.ofNat x) (Int32.ofNat y) (Int32.ofNat z), m, S + 1, t, e3) := by
    rw [pSack, if_neg (by omega), q1]
    show (match pNum B n e1 true 1 99 with
      | .inl er => (.inl er : PR)
      | .inr (w, e2) => match pNum B n e2 true 0 999 with
        | .inl er => .inl er
        | .inr (v, e3) => .inr (bringsN N S (Int32.ofNat x) w v, m, S + 1, t, e3)) = _
    rw [n1]
    show (match pNum B n e2 true 0 999 with
        | .inl er => (.inl er : PR)
        | .inr (v, e3) => .inr (bringsN N S (Int32.ofNat x) (Int32.ofNat y) v, m, S + 1, t, e3)) = _
    rw [w1]
  exact ⟨_, e3, hp, ⟨(ok_sack hP.1 he hp).1, vOk_brings hS hz hP.2.1, (bringsN_lo (by omega) (by omega)).trans hP.2.2.1, fun i hi => (bringsN_lo (by omega) (by have := hP.1.1.1.2.2.2.1; omega)).trans (hP.2.2.2 i hi)⟩, w2⟩
theorem mst_eq {x : Nat} (hx : x < 3) : mostL x = Int32.ofNat (mstN x) ∧ mstN x ≤ 99 := by
  rcases (show x = 0 ∨ x = 1 ∨ x = 2 by omega) with rfl | rfl | rfl <;> decide
theorem leads_lo {k j : Nat} {kd v : Int32} (h : j < 191) (h5 : j ≠ 5) : leadsN N k kd v j = N j := by
  rw [leadsN, upd_ne h5, leadN, upd_ne (by omega), upd_ne (by omega)]
theorem p_stage {x0 x y : Nat} (hP : PS N m S t) (ht : t < 8) (hx : x < 3) (hy : 1 ≤ y) (hy9 : y ≤ mstN x) (he : e ≤ n) (hr : lnE r) (h : Suf B n e (32 :: (digN y ++ r))) : ∃ N' e', pStage B n x0 e x N m S t = .inr (N', m, S, t + 1, e') ∧ PS N' m S (t + 1) ∧ Suf B n e' r := by
  obtain ⟨k1, k2⟩ := mst_eq hx
  obtain ⟨e1, n1, n2⟩ := p_num (lr := true) (a := y) (lo := 1) (hi := mostL x) (by omega) h (hr.stp (by decide)) (i_nlt (b := 1) (by omega) (by omega) hy) (by rw [k1]; exact i_nlt (by omega) (by omega) hy9)
  have hp : pStage B n x0 e x N m S t = .inr (leadsN N t (Int32.ofNat x) (Int32.ofNat y), m, S, t + 1, e1) := by
    rw [pStage, if_neg (by omega), n1]
  have hS := hP.1.1.1.2.2.2.2.1
  have hm := hP.1.1.1.2.2.2.1
  exact ⟨_, e1, hp, ⟨(ok_stage hx hP.1 he hp).1, vOk_high (fun j h1 h2 => leads_lo h1 h2) hS hP.2.1, (leads_lo (by omega) (by omega)).trans hP.2.2.1, fun i hi => (leads_lo (by omega) (by omega)).trans (hP.2.2.2 i hi)⟩, n2⟩
theorem c012 (c : Nat) : c = 0 ∨ c = 1 ∨ ∃ c', c = c' + 2 := by
  by_cases h0 : c = 0
  · exact Or.inl h0
  · by_cases h1 : c = 1
    · exact Or.inr (Or.inl h1)
    · exact Or.inr (Or.inr ⟨c - 2, by omega⟩)
/-- a line of the text -/
theorem p_line {l : LN} (hP : PS N m S t) (hl : lnOk m S t l) (hr : lnE r) (h : Suf B n e (lnT l ++ r)) : ∃ N' e', pLine B n e N m S t = .inr (N', m + lnM l, S + lnK l, t + lnG l, e') ∧ PS N' (m + lnM l) (S + lnK l) (t + lnG l) ∧ Suf B n e' r := by
  obtain ⟨w1, w2, w3, w4, w5, w6⟩ := wEqs.2.2
  obtain ⟨v1, v2, v3, v4, v5, v6⟩ := wEqs.1
  obtain ⟨u1, u2, u3, u4⟩ := wEqs.2.1
  obtain ⟨c, x, y, z⟩ := l
  rcases (show c = 0 ∨ c = 1 ∨ ∃ c', c = c' + 2 from c012 c) with rfl | rfl | ⟨c', rfl⟩
  · obtain ⟨h1, h2, h3, h4⟩ := hl
    subst h1
    have h' : Suf B n e (wdL 1 ++ (32 :: ((97 + x) :: 32 :: (digN y ++ r)))) := by
      have : lnT (0, x, y, z) ++ r = wdL 1 ++ (32 :: ((97 + x) :: 32 :: (digN y ++ r))) := by simp [lnT]
      rw [this] at h; exact h
    obtain ⟨k1, k2, k3, k4⟩ := p_word0 (q := 1) (by omega) h'
    have he := (skp_le (B := B) (e := e) (n := n) (by have := h.1; omega))
    obtain ⟨N', e', g1, g2, g3⟩ := p_mule (x0 := skp B n e) hP h2 h3 h4 (by have := k4.1; omega) hr k4
    refine ⟨N', e', ?_, g2, g3⟩
    rw [pLine, if_pos k1, k2, k3, isW_c h', w1, if_pos rfl]
    rw [k2] at g1
    exact g1
  · obtain ⟨h1, h2, h3, h4, h5⟩ := hl
    have h' : Suf B n e (wdL 2 ++ (32 :: (wdL (9 + x) ++ 32 :: (digN y ++ 32 :: (digN z ++ r))))) := by
      have : lnT (1, x, y, z) ++ r = wdL 2 ++ (32 :: (wdL (9 + x) ++ 32 :: (digN y ++ 32 :: (digN z ++ r)))) := by simp [lnT]
      rw [this] at h; exact h
    obtain ⟨k1, k2, k3, k4⟩ := p_word0 (q := 2) (by omega) h'
    obtain ⟨N', e', g1, g2, g3⟩ := p_sack (x0 := skp B n e) hP h1 h2 h3 h4 h5 (by have := k4.1; omega) hr k4
    refine ⟨N', e', ?_, g2, g3⟩
    rw [pLine, if_pos k1, k2, k3, isW_c h', isW_c h', v1, w2, if_neg (by decide), if_pos rfl]
    rw [k2] at g1
    exact g1
  · obtain ⟨h1, h2, h3, h4⟩ := hl
    have h' : Suf B n e (wdL (3 + x) ++ (32 :: (digN y ++ r))) := by
      have : lnT (c' + 2, x, y, z) ++ r = wdL (3 + x) ++ (32 :: (digN y ++ r)) := by simp [lnT]
      rw [this] at h; exact h
    obtain ⟨k1, k2, k3, k4⟩ := p_word0 (q := 3 + x) (by omega) h'
    obtain ⟨N', e', g1, g2, g3⟩ := p_stage (x0 := skp B n e) hP h1 h2 h3 h4 (by have := k4.1; omega) hr k4
    refine ⟨N', e', ?_, g2, g3⟩
    rw [k2] at g1
    rw [pLine, if_pos k1, k2, k3, isW_c h', isW_c h', isW_c h', isW_c h', isW_c h']
    rcases (show x = 0 ∨ x = 1 ∨ x = 2 by omega) with rfl | rfl | rfl
    · rw [v2, v3, w3, if_neg (by decide), if_neg (by decide), if_pos rfl]
      exact g1
    · rw [v4, v5, v6, w4, if_neg (by decide), if_neg (by decide), if_neg (by decide), if_pos rfl]
      exact g1
    · rw [u1, u2, u3, u4, w5, if_neg (by decide), if_neg (by decide), if_neg (by decide), if_neg (by decide), if_pos rfl]
      exact g1
theorem tk_semi {lr : Bool} (h : Suf B n e (59 :: r)) : pEnd B n e lr = .inr (true, e + 1) ∧ Suf B n (e + 1) r := by
  obtain ⟨h1, h2, h3⟩ := Suf.cons h
  have hs : skp B n e = e := skp0 h (by decide)
  have hk : kd (B (skp B n e)) = 3 := by rw [hs, h2]; decide
  have h4 := tokK_3 (B := B) (n := n) (e := e) (lr := lr) (by omega) (by rw [hk]; decide) (by rw [hk]; decide)
  rw [pEnd, h4.1, hk, if_neg (by decide), if_pos rfl, h4.2, hs]
  exact ⟨rfl, h3⟩
theorem tk_end {lr : Bool} (h : Suf B n e []) : pEnd B n e lr = .inr (false, n) := by
  have h4 := tokK_0 (B := B) (n := n) (e := e) (lr := lr) (skpE h)
  rw [pEnd, h4.1, if_pos rfl, h4.2]
def sumM : List LN → Nat
  | [] => 0
  | l :: r => lnM l + sumM r
def sumK : List LN → Nat
  | [] => 0
  | l :: r => lnK l + sumK r
def sumG : List LN → Nat
  | [] => 0
  | l :: r => lnG l + sumG r
theorem p_lines : ∀ (ls : List LN) (f : Nat) (N : Nat → Int32) (m S t e : Nat), ls.length < f → PS N m S t → lnsOk m S t ls → Suf B n e (lnsT ls) → ∃ N' e', pLines B n f (N, m, S, t, e) = .inr (N', m + sumM ls, S + sumK ls, t + sumG ls, e') ∧ PS N' (m + sumM ls) (S + sumK ls) (t + sumG ls) := by
  intro ls
  induction ls with
  | nil =>
    intro f N m S t e hf hP _ h
    cases f with
    | zero => exact absurd hf (Nat.not_lt_zero _)
    | succ f =>
      refine ⟨N, n, ?_, hP⟩
      rw [pLines, tk_end h]
      rfl
  | cons l ls ih =>
    intro f N m S t e hf hP hl h
    cases f with
    | zero => exact absurd hf (Nat.not_lt_zero _)
    | succ f =>
      obtain ⟨h1, h2⟩ := tk_semi (lr := true) h
      obtain ⟨N', e', g1, g2, g3⟩ := p_line hP hl.1 (lnsT_E ls) h2
      obtain ⟨N2, e2, k1, k2⟩ := ih f N' _ _ _ e' (by rw [List.length_cons] at hf; omega) g2 hl.2 g3
      refine ⟨N2, e2, ?_, ?_⟩
      · rw [pLines_t h1, pAfter, g1]
        show pLines B n f (N', m + lnM l, S + lnK l, t + lnG l, e') = _
        rw [k1, sumM, sumK, sumG, Nat.add_assoc, Nat.add_assoc, Nat.add_assoc]
      · rw [sumM, sumK, sumG, ← Nat.add_assoc, ← Nat.add_assoc, ← Nat.add_assoc]; exact k2
def hdT (a b c : Nat) : List Nat := wdL 0 ++ 32 :: (digN a ++ 32 :: (digN b ++ 32 :: digN c))
def trT (a b c : Nat) (ls : List LN) : List Nat := hdT a b c ++ lnsT ls
theorem vOk_head {a c : Nat} {b : Int32} (ha : a ≤ 99) (hc : c ≤ 50) : vOk (setN (fun _ => 0) (Int32.ofNat a) b (Int32.ofNat c)) 0 := by
  refine ⟨fun k hk => absurd hk (Nat.not_lt_zero _), ⟨⟨a, by rw [setN, upd_ne (by omega), upd_ne (by omega), upd_at], ha⟩, c, upd_at, hc⟩, ?_, ?_, ?_⟩
  · rw [setN, upd_ne (by omega), upd_ne (by omega), upd_ne (by omega)]; rfl
  · rw [setN, upd_ne (by omega), upd_ne (by omega), upd_ne (by omega), upd_ne (by omega), upd_ne (by omega), upd_ne (by omega), upd_ne (by omega), upd_ne (by omega), upd_ne (by omega)]; rfl
  · rw [setN, upd_ne (by omega), upd_ne (by omega), upd_ne (by omega), upd_ne (by omega), upd_ne (by omega), upd_ne (by omega), upd_ne (by omega), upd_ne (by omega), upd_ne (by omega), upd_ne (by omega), upd_ne (by omega), upd_ne (by omega)]; rfl
/-- the text of a train is read as this train -/
theorem p_text {a b c : Nat} {ls : List LN} (ha : a ≤ 99) (hb : b ≤ 50) (hc : c ≤ 50) (hls : ls.length ≤ 600) (hl : lnsOk 0 0 0 ls) (h : Suf B n 0 (trT a b c ls)) : ∃ N e, pText (fun _ => 0) B n = .inr (N, sumM ls, sumK ls, sumG ls, e) ∧ PS N (sumM ls) (sumK ls) (sumG ls) := by
  have h' : Suf B n 0 (wdL 0 ++ 32 :: (digN a ++ 32 :: (digN b ++ 32 :: (digN c ++ lnsT ls)))) := by
    have : trT a b c ls = wdL 0 ++ 32 :: (digN a ++ 32 :: (digN b ++ 32 :: (digN c ++ lnsT ls))) := by simp [trT, hdT]
    rw [this] at h; exact h
  obtain ⟨k1, k2, k3, k4⟩ := p_word0 (q := 0) (by omega) h'
  obtain ⟨e1, a1, a2⟩ := p_num (lr := true) (a := a) (lo := 0) (hi := 99) (by omega) k4 (stp_32 (by decide)) (i_nonneg (by omega)) (i_nlt (a := 99) (by omega) (by omega) ha)
  obtain ⟨e2, b1, b2⟩ := p_num (lr := true) (a := b) (lo := 0) (hi := 50) (by omega) a2 (stp_32 (by decide)) (i_nonneg (by omega)) (i_nlt (a := 50) (by omega) (by omega) hb)
  obtain ⟨e3, c1, c2⟩ := p_num (lr := true) (a := c) (lo := 0) (hi := 50) (by omega) b2 ((lnsT_E ls).stp (by decide)) (i_nonneg (by omega)) (i_nlt (a := 50) (by omega) (by omega) hc)
  have hh : pHead (fun _ => 0) B n = .inr (setN (fun _ => 0) (Int32.ofNat a) (Int32.ofNat b) (Int32.ofNat c), 0, 0, 0, e3) := by
    rw [pHead, if_pos ⟨k1, by rw [k2, k3, isW_c h']; exact wEqs.2.2.2.2.2.2.2⟩, k3, a1]
    show (match pNum B n e1 true 0 50 with
      | .inl er => (.inl er : PR)
      | .inr (b, e2) => match pNum B n e2 true 0 50 with
        | .inl er => .inl er
        | .inr (c, e3) => .inr (setN (fun _ => 0) (Int32.ofNat a) b c, 0, 0, 0, e3)) = _
    rw [b1]
    show (match pNum B n e2 true 0 50 with
        | .inl er => (.inl er : PR)
        | .inr (c, e3) => .inr (setN (fun _ => 0) (Int32.ofNat a) (Int32.ofNat b) c, 0, 0, 0, e3)) = _
    rw [c1]
  have hP : PS (setN (fun _ => 0) (Int32.ofNat a) (Int32.ofNat b) (Int32.ofNat c)) 0 0 0 := ⟨(ok_head (fun _ _ => rfl) hh).1, vOk_head ha hc, by rw [setN, upd_ne (by omega), upd_ne (by omega), upd_ne (by omega)], fun i hi => absurd hi (Nat.not_lt_zero _)⟩
  obtain ⟨N, e, g1, g2⟩ := p_lines ls 701 _ 0 0 0 e3 (by omega) hP hl c2
  rw [Nat.zero_add, Nat.zero_add, Nat.zero_add] at g1 g2
  refine ⟨N, e, ?_, g2⟩
  rw [pText, hh]
  exact g1
end LNS
