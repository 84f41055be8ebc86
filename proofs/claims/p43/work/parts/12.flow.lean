/-! branches, and ops that want something -/
abbrev mCf : Type := List Value → Option (Bool × List Value)
abbrev mCc : Type := Nat → Instr → Nat → List Nat → Bool
def SimC (q : mCc × mCf) : Prop := ∀ (X : mX) (cells slots : Nat) (ad : Nat → Nat) (L st : List Value) (W9 : List mE) (pc : Nat) (i : Instr) (len tT tF : Nat) (c9 : Bool) (st' : List Value), mCx X → decode (mby (mkk X)) pc = .ok (i, len) → q.1 pc i len [tT, tF] = true → q.2 st = some (c9, st') → (c9 = true → mGo X cells slots ad L st' W9 tT) → (c9 = false → mGo X cells slots ad L st' W9 tF) → mGo X cells slots ad L st W9 pc
section CONDS
variable {X : mX} {cells slots : Nat} {ad : Nat → Nat} {L r : List Value} {W9 : List mE} {pc : Nat}
theorem o_if_ne (hX : mCx X) {x : Int32} {off : Int} {t : Nat} (ht : (pc : Int) + off = (t : Int)) (hd : decode (mby (mkk X)) pc = .ok (.ifCond .ne off, 3)) (kt : (¬ x = 0) → mGo X cells slots ad L r W9 t) (kf : (x = 0) → mGo X cells slots ad L r W9 (pc + 3)) : mGo X cells slots ad L (.int x :: r) W9 pc := by
  obtain ⟨p, l, e, R, s, m, args, below, meth, c, Q, A, dC, dI, dA, adR, RO, k⟩ := X
  obtain ⟨hx, hb, hml, hown, ⟨hwA, hwN⟩, hA, hK, hRO, hROA, hlk, hrt, hfr, hlo, hini⟩ := hX
  intro H locs ls hP hD hS hn hw hL hs hl
  exact lv_if_ne hx hb hd ht (fun h9 => kt h9 H locs ls hP hD hS hn hw hL (wv_tail hs) hl) (fun h9 => kf h9 H locs ls hP hD hS hn hw hL (wv_tail hs) hl)
theorem o_if_ge (hX : mCx X) {x : Int32} {off : Int} {t : Nat} (ht : (pc : Int) + off = (t : Int)) (hd : decode (mby (mkk X)) pc = .ok (.ifCond .ge off, 3)) (kt : (0 ≤ x) → mGo X cells slots ad L r W9 t) (kf : (¬ 0 ≤ x) → mGo X cells slots ad L r W9 (pc + 3)) : mGo X cells slots ad L (.int x :: r) W9 pc := by
  obtain ⟨p, l, e, R, s, m, args, below, meth, c, Q, A, dC, dI, dA, adR, RO, k⟩ := X
  obtain ⟨hx, hb, hml, hown, ⟨hwA, hwN⟩, hA, hK, hRO, hROA, hlk, hrt, hfr, hlo, hini⟩ := hX
  intro H locs ls hP hD hS hn hw hL hs hl
  exact lv_if_ge hx hb hd ht (fun h9 => kt h9 H locs ls hP hD hS hn hw hL (wv_tail hs) hl) (fun h9 => kf h9 H locs ls hP hD hS hn hw hL (wv_tail hs) hl)
theorem o_icmp_ne (hX : mCx X) {x y : Int32} {off : Int} {t : Nat} (ht : (pc : Int) + off = (t : Int)) (hd : decode (mby (mkk X)) pc = .ok (.if_icmp .ne off, 3)) (kt : (¬ x = y) → mGo X cells slots ad L r W9 t) (kf : (x = y) → mGo X cells slots ad L r W9 (pc + 3)) : mGo X cells slots ad L (.int y :: .int x :: r) W9 pc := by
  obtain ⟨p, l, e, R, s, m, args, below, meth, c, Q, A, dC, dI, dA, adR, RO, k⟩ := X
  obtain ⟨hx, hb, hml, hown, ⟨hwA, hwN⟩, hA, hK, hRO, hROA, hlk, hrt, hfr, hlo, hini⟩ := hX
  intro H locs ls hP hD hS hn hw hL hs hl
  exact lv_icmp_ne hx hb hd ht (fun h9 => kt h9 H locs ls hP hD hS hn hw hL (wv_tail (wv_tail hs)) hl) (fun h9 => kf h9 H locs ls hP hD hS hn hw hL (wv_tail (wv_tail hs)) hl)
theorem o_icmp_ge (hX : mCx X) {x y : Int32} {off : Int} {t : Nat} (ht : (pc : Int) + off = (t : Int)) (hd : decode (mby (mkk X)) pc = .ok (.if_icmp .ge off, 3)) (kt : (y ≤ x) → mGo X cells slots ad L r W9 t) (kf : (¬ y ≤ x) → mGo X cells slots ad L r W9 (pc + 3)) : mGo X cells slots ad L (.int y :: .int x :: r) W9 pc := by
  obtain ⟨p, l, e, R, s, m, args, below, meth, c, Q, A, dC, dI, dA, adR, RO, k⟩ := X
  obtain ⟨hx, hb, hml, hown, ⟨hwA, hwN⟩, hA, hK, hRO, hROA, hlk, hrt, hfr, hlo, hini⟩ := hX
  intro H locs ls hP hD hS hn hw hL hs hl
  exact lv_icmp_ge hx hb hd ht (fun h9 => kt h9 H locs ls hP hD hS hn hw hL (wv_tail (wv_tail hs)) hl) (fun h9 => kf h9 H locs ls hP hD hS hn hw hL (wv_tail (wv_tail hs)) hl)
end CONDS
def cc_ifeq : mCc := fun pc i len x => match i, x with
  | .ifCond .eq off, [tT, tF] => decide ((pc : Int) + off = (tT : Int)) && Nat.beq tF (pc + 3) && Nat.beq len 3
  | .ifCond .ne off, [tT, tF] => decide ((pc : Int) + off = (tF : Int)) && Nat.beq tT (pc + 3) && Nat.beq len 3
  | _, _ => false
def cf_ifeq : mCf := fun st => match st with
  | .int x :: r => some (decide (x = 0), r)
  | _ => none
theorem simc_ifeq : SimC (cc_ifeq, cf_ifeq) := by
  intro X cells slots ad L st W9 pc i len tT tF c9 st' hX hd hc h kt kf
  simp only [cc_ifeq, cf_ifeq] at hc h
  split at h
  · cases h
    have kt9 : _ → _ := fun h9 => kt (decide_eq_true h9)
    have kf9 : _ → _ := fun h9 => kf (decide_eq_false h9)
    split at hc
    · rename_i hx
      cases hx
      simp only [Bool.and_eq_true, decide_eq_true_eq] at hc
      obtain ⟨⟨h1, h2⟩, hl⟩ := hc
      cases Nat.eq_of_beq_eq_true hl
      cases Nat.eq_of_beq_eq_true h2
      exact o_if_eq hX h1 hd kt9 kf9
    · rename_i hx
      cases hx
      simp only [Bool.and_eq_true, decide_eq_true_eq] at hc
      obtain ⟨⟨h1, h2⟩, hl⟩ := hc
      cases Nat.eq_of_beq_eq_true hl
      cases Nat.eq_of_beq_eq_true h2
      exact o_if_ne hX h1 hd kf9 kt9
    · cases hc
  · cases h
def cc_iflt : mCc := fun pc i len x => match i, x with
  | .ifCond .lt off, [tT, tF] => decide ((pc : Int) + off = (tT : Int)) && Nat.beq tF (pc + 3) && Nat.beq len 3
  | .ifCond .ge off, [tT, tF] => decide ((pc : Int) + off = (tF : Int)) && Nat.beq tT (pc + 3) && Nat.beq len 3
  | _, _ => false
def cf_iflt : mCf := fun st => match st with
  | .int x :: r => some (decide (x < 0), r)
  | _ => none
theorem simc_iflt : SimC (cc_iflt, cf_iflt) := by
  intro X cells slots ad L st W9 pc i len tT tF c9 st' hX hd hc h kt kf
  simp only [cc_iflt, cf_iflt] at hc h
  split at h
  · cases h
    have kt9 : _ → _ := fun h9 => kt (decide_eq_true h9)
    have kf9 : _ → _ := fun h9 => kf (decide_eq_false h9)
    split at hc
    · rename_i hx
      cases hx
      simp only [Bool.and_eq_true, decide_eq_true_eq] at hc
      obtain ⟨⟨h1, h2⟩, hl⟩ := hc
      cases Nat.eq_of_beq_eq_true hl
      cases Nat.eq_of_beq_eq_true h2
      exact o_if_lt hX h1 hd kt9 kf9
    · rename_i hx
      cases hx
      simp only [Bool.and_eq_true, decide_eq_true_eq] at hc
      obtain ⟨⟨h1, h2⟩, hl⟩ := hc
      cases Nat.eq_of_beq_eq_true hl
      cases Nat.eq_of_beq_eq_true h2
      exact o_if_ge hX h1 hd (fun h9 => kf9 (Int32.not_lt.mpr h9)) (fun h9 => kt9 (Int32.not_le.mp h9))
    · cases hc
  · cases h
def cc_ifgt : mCc := fun pc i len x => match i, x with
  | .ifCond .gt off, [tT, tF] => decide ((pc : Int) + off = (tT : Int)) && Nat.beq tF (pc + 3) && Nat.beq len 3
  | .ifCond .le off, [tT, tF] => decide ((pc : Int) + off = (tF : Int)) && Nat.beq tT (pc + 3) && Nat.beq len 3
  | _, _ => false
def cf_ifgt : mCf := fun st => match st with
  | .int x :: r => some (decide (0 < x), r)
  | _ => none
theorem simc_ifgt : SimC (cc_ifgt, cf_ifgt) := by
  intro X cells slots ad L st W9 pc i len tT tF c9 st' hX hd hc h kt kf
  simp only [cc_ifgt, cf_ifgt] at hc h
  split at h
  · cases h
    have kt9 : _ → _ := fun h9 => kt (decide_eq_true h9)
    have kf9 : _ → _ := fun h9 => kf (decide_eq_false h9)
    split at hc
    · rename_i hx
      cases hx
      simp only [Bool.and_eq_true, decide_eq_true_eq] at hc
      obtain ⟨⟨h1, h2⟩, hl⟩ := hc
      cases Nat.eq_of_beq_eq_true hl
      cases Nat.eq_of_beq_eq_true h2
      exact o_if_gt hX h1 hd kt9 kf9
    · rename_i hx
      cases hx
      simp only [Bool.and_eq_true, decide_eq_true_eq] at hc
      obtain ⟨⟨h1, h2⟩, hl⟩ := hc
      cases Nat.eq_of_beq_eq_true hl
      cases Nat.eq_of_beq_eq_true h2
      exact o_if_le hX h1 hd (fun h9 => kf9 (Int32.not_lt.mpr h9)) (fun h9 => kt9 (Int32.not_le.mp h9))
    · cases hc
  · cases h
def cc_icmpeq : mCc := fun pc i len x => match i, x with
  | .if_icmp .eq off, [tT, tF] => decide ((pc : Int) + off = (tT : Int)) && Nat.beq tF (pc + 3) && Nat.beq len 3
  | .if_icmp .ne off, [tT, tF] => decide ((pc : Int) + off = (tF : Int)) && Nat.beq tT (pc + 3) && Nat.beq len 3
  | _, _ => false
def cf_icmpeq : mCf := fun st => match st with
  | .int y :: .int x :: r => some (decide (x = y), r)
  | _ => none
theorem simc_icmpeq : SimC (cc_icmpeq, cf_icmpeq) := by
  intro X cells slots ad L st W9 pc i len tT tF c9 st' hX hd hc h kt kf
  simp only [cc_icmpeq, cf_icmpeq] at hc h
  split at h
  · cases h
    have kt9 : _ → _ := fun h9 => kt (decide_eq_true h9)
    have kf9 : _ → _ := fun h9 => kf (decide_eq_false h9)
    split at hc
    · rename_i hx
      cases hx
      simp only [Bool.and_eq_true, decide_eq_true_eq] at hc
      obtain ⟨⟨h1, h2⟩, hl⟩ := hc
      cases Nat.eq_of_beq_eq_true hl
      cases Nat.eq_of_beq_eq_true h2
      exact o_icmp_eq hX h1 hd kt9 kf9
    · rename_i hx
      cases hx
      simp only [Bool.and_eq_true, decide_eq_true_eq] at hc
      obtain ⟨⟨h1, h2⟩, hl⟩ := hc
      cases Nat.eq_of_beq_eq_true hl
      cases Nat.eq_of_beq_eq_true h2
      exact o_icmp_ne hX h1 hd kf9 kt9
    · cases hc
  · cases h
def cc_icmplt : mCc := fun pc i len x => match i, x with
  | .if_icmp .lt off, [tT, tF] => decide ((pc : Int) + off = (tT : Int)) && Nat.beq tF (pc + 3) && Nat.beq len 3
  | .if_icmp .ge off, [tT, tF] => decide ((pc : Int) + off = (tF : Int)) && Nat.beq tT (pc + 3) && Nat.beq len 3
  | _, _ => false
def cf_icmplt : mCf := fun st => match st with
  | .int y :: .int x :: r => some (decide (x < y), r)
  | _ => none
theorem simc_icmplt : SimC (cc_icmplt, cf_icmplt) := by
  intro X cells slots ad L st W9 pc i len tT tF c9 st' hX hd hc h kt kf
  simp only [cc_icmplt, cf_icmplt] at hc h
  split at h
  · cases h
    have kt9 : _ → _ := fun h9 => kt (decide_eq_true h9)
    have kf9 : _ → _ := fun h9 => kf (decide_eq_false h9)
    split at hc
    · rename_i hx
      cases hx
      simp only [Bool.and_eq_true, decide_eq_true_eq] at hc
      obtain ⟨⟨h1, h2⟩, hl⟩ := hc
      cases Nat.eq_of_beq_eq_true hl
      cases Nat.eq_of_beq_eq_true h2
      exact o_icmp_lt hX h1 hd kt9 kf9
    · rename_i hx
      cases hx
      simp only [Bool.and_eq_true, decide_eq_true_eq] at hc
      obtain ⟨⟨h1, h2⟩, hl⟩ := hc
      cases Nat.eq_of_beq_eq_true hl
      cases Nat.eq_of_beq_eq_true h2
      exact o_icmp_ge hX h1 hd (fun h9 => kf9 (Int32.not_lt.mpr h9)) (fun h9 => kt9 (Int32.not_le.mp h9))
    · cases hc
  · cases h
def cc_icmpgt : mCc := fun pc i len x => match i, x with
  | .if_icmp .gt off, [tT, tF] => decide ((pc : Int) + off = (tT : Int)) && Nat.beq tF (pc + 3) && Nat.beq len 3
  | .if_icmp .le off, [tT, tF] => decide ((pc : Int) + off = (tF : Int)) && Nat.beq tT (pc + 3) && Nat.beq len 3
  | _, _ => false
def cf_icmpgt : mCf := fun st => match st with
  | .int y :: .int x :: r => some (decide (y < x), r)
  | _ => none
theorem simc_icmpgt : SimC (cc_icmpgt, cf_icmpgt) := by
  intro X cells slots ad L st W9 pc i len tT tF c9 st' hX hd hc h kt kf
  simp only [cc_icmpgt, cf_icmpgt] at hc h
  split at h
  · cases h
    have kt9 : _ → _ := fun h9 => kt (decide_eq_true h9)
    have kf9 : _ → _ := fun h9 => kf (decide_eq_false h9)
    split at hc
    · rename_i hx
      cases hx
      simp only [Bool.and_eq_true, decide_eq_true_eq] at hc
      obtain ⟨⟨h1, h2⟩, hl⟩ := hc
      cases Nat.eq_of_beq_eq_true hl
      cases Nat.eq_of_beq_eq_true h2
      exact o_icmp_gt hX h1 hd kt9 kf9
    · rename_i hx
      cases hx
      simp only [Bool.and_eq_true, decide_eq_true_eq] at hc
      obtain ⟨⟨h1, h2⟩, hl⟩ := hc
      cases Nat.eq_of_beq_eq_true hl
      cases Nat.eq_of_beq_eq_true h2
      exact o_icmp_le hX h1 hd (fun h9 => kf9 (Int32.not_lt.mpr h9)) (fun h9 => kt9 (Int32.not_le.mp h9))
    · cases hc
  · cases h
def cc_ifnull : mCc := fun pc i len x => match i, x with
  | .ifnull off, [tT, tF] => decide ((pc : Int) + off = (tT : Int)) && Nat.beq tF (pc + 3) && Nat.beq len 3
  | .ifnonnull off, [tT, tF] => decide ((pc : Int) + off = (tF : Int)) && Nat.beq tT (pc + 3) && Nat.beq len 3
  | _, _ => false
def cf_ifnull : mCf := fun st => match st with
  | .ref _ :: r => some (false, r)
  | .null :: r => some (true, r)
  | _ => none
theorem simc_ifnull : SimC (cc_ifnull, cf_ifnull) := by
  intro X cells slots ad L st W9 pc i len tT tF c9 st' hX hd hc h kt kf
  simp only [cc_ifnull, cf_ifnull] at hc h
  split at hc
  · rename_i hx
    cases hx
    simp only [Bool.and_eq_true, decide_eq_true_eq] at hc
    obtain ⟨⟨h1, h2⟩, hl⟩ := hc
    cases Nat.eq_of_beq_eq_true hl
    cases Nat.eq_of_beq_eq_true h2
    split at h
    · cases h; exact o_ifnullR hX hd (kf rfl)
    · cases h; exact o_ifnullN hX h1 hd (kt rfl)
    · cases h
  · rename_i hx
    cases hx
    simp only [Bool.and_eq_true, decide_eq_true_eq] at hc
    obtain ⟨⟨h1, h2⟩, hl⟩ := hc
    cases Nat.eq_of_beq_eq_true hl
    cases Nat.eq_of_beq_eq_true h2
    split at h
    · cases h; exact o_ifnnR hX h1 hd (kf rfl)
    · cases h; exact o_ifnnN hX hd (kt rfl)
    · cases h
  · cases hc
def mCt : List (mCc × mCf) := [(cc_ifeq, cf_ifeq), (cc_iflt, cf_iflt), (cc_ifgt, cf_ifgt), (cc_icmpeq, cf_icmpeq), (cc_icmplt, cf_icmplt), (cc_icmpgt, cf_icmpgt), (cc_ifnull, cf_ifnull)]
theorem mCt_ok : ∀ q ∈ mCt, SimC q := List.forall_mem_cons.mpr ⟨simc_ifeq, List.forall_mem_cons.mpr ⟨simc_iflt, List.forall_mem_cons.mpr ⟨simc_ifgt, List.forall_mem_cons.mpr ⟨simc_icmpeq, List.forall_mem_cons.mpr ⟨simc_icmplt, List.forall_mem_cons.mpr ⟨simc_icmpgt, List.forall_mem_cons.mpr ⟨simc_ifnull, fun _ h => absurd h List.not_mem_nil⟩⟩⟩⟩⟩⟩⟩
abbrev mGf : Type := List mE → List Nat → List Value → List Value → List mE → Option (Bool × List Value × List Value × List mE)
abbrev mGc : Type := Nat → Instr → Nat → List Nat → Bool
def SimG (q : mGc × mGf) : Prop := ∀ (X : mX) (cells slots : Nat) (ad : Nat → Nat) (L st : List Value) (W9 : List mE) (pc nx : Nat) (i : Instr) (len : Nat) (x : List Nat) (c9 : Bool) (L' st' : List Value) (W' : List mE), mCx X → (∀ e ∈ mRO X, wE 0 e) → decode (mby (mkk X)) pc = .ok (i, len) → nx = pc + len → q.1 (mkk X) i len x = true → q.2 (mRO X) x L st W9 = some (c9, L', st', W') → c9 = true → mGo X cells slots ad L' st' W' nx → mGo X cells slots ad L st W9 pc
def vfb32 (r : UInt32) : Bool := decide (r &&& 0x7fffffff ≤ 0x7f800000)
def vfb64 (r : UInt64) : Bool := decide (r &&& 0x7fffffffffffffff ≤ 0x7ff0000000000000)
theorem vfb32_ok {r : UInt32} (h : vfb32 r = true) : vf_n32 r := by
  have h9 : r &&& 0x7fffffff ≤ 0x7f800000 := of_decide_eq_true h
  exact h9
theorem vfb64_ok {r : UInt64} (h : vfb64 r = true) : vf_n64 r := by
  have h9 : r &&& 0x7fffffffffffffff ≤ 0x7ff0000000000000 := of_decide_eq_true h
  exact h9
def vpb (i : Int32) (n : Nat) : Bool := !(decide (i < 0) || Nat.ble n i.toNatClampNeg)
theorem vpb_ok {i : Int32} {n : Nat} (h : vpb i n = true) : vp_in i n := by
  unfold vpb at h
  simp only [Bool.not_eq_true', Bool.or_eq_false_iff, decide_eq_false_iff_not] at h
  rintro (h1 | h1)
  · exact h.1 h1
  · rw [Nat.ble_eq_true_of_le h1] at h
    cases h.2
theorem nz_of {y : Int32} (h : (!decide (y = 0)) = true) : ¬ y = 0 := by
  simpa using h
def cpb (sp dp n : Int32) (n0 n1 : Nat) : Bool := !decide (sp < 0) && !decide (dp < 0) && !decide (n < 0) && Nat.ble (sp.toNatClampNeg + n.toNatClampNeg) n0 && Nat.ble (dp.toNatClampNeg + n.toNatClampNeg) n1
theorem cpb_ok {sp dp n : Int32} {n0 n1 : Nat} (h : cpb sp dp n n0 n1 = true) : ¬ sp < 0 ∧ ¬ dp < 0 ∧ ¬ n < 0 ∧ sp.toNatClampNeg + n.toNatClampNeg ≤ n0 ∧ dp.toNatClampNeg + n.toNatClampNeg ≤ n1 := by
  unfold cpb at h
  simp only [Bool.and_eq_true, Bool.not_eq_true', decide_eq_false_iff_not] at h
  exact ⟨h.1.1.1.1, h.1.1.1.2, h.1.1.2, Nat.le_of_ble_eq_true h.1.2, Nat.le_of_ble_eq_true h.2⟩
theorem gset_some {c9 c8 : Bool} {L L' : List Value} {q : Nat} {e : mE} {st st' : List Value} {W9 W' : List mE} (h : mset W9 q e (fun w => some (c8, L, st, w)) none = some (c9, L', st', W')) : c9 = c8 ∧ L' = L ∧ st' = st ∧ W' = W9.set q e := by
  rw [mset_eq] at h
  by_cases hi : q < W9.length
  · rw [if_pos hi] at h; cases h; exact ⟨rfl, rfl, rfl, rfl⟩
  · rw [if_neg hi] at h; cases h
def gc_idiv : mGc := fun _ i len _ => decide (i = .idiv) && Nat.beq len 1
def gf_idiv : mGf := fun _ _ L st W9 => match st with
  | .int y :: .int x :: r => some (!decide (y = 0), L, .int (x / y) :: r, W9)
  | _ => none
theorem simg_idiv : SimG (gc_idiv, gf_idiv) := by
  intro X cells slots ad L st W9 pc nx i len x c9 L' st' W' hX hro hd hnx hc h hc9 kk
  subst hnx
  simp only [gc_idiv, gf_idiv] at hc h
  simp only [Bool.and_eq_true, decide_eq_true_eq] at hc
  obtain ⟨rfl, hl⟩ := hc
  cases Nat.eq_of_beq_eq_true hl
  split at h
  · cases h
    exact o_idiv hX (nz_of hc9) hd kk
  · cases h
def gc_irem : mGc := fun _ i len _ => decide (i = .irem) && Nat.beq len 1
def gf_irem : mGf := fun _ _ L st W9 => match st with
  | .int y :: .int x :: r => some (!decide (y = 0), L, .int (x - x / y * y) :: r, W9)
  | _ => none
theorem simg_irem : SimG (gc_irem, gf_irem) := by
  intro X cells slots ad L st W9 pc nx i len x c9 L' st' W' hX hro hd hnx hc h hc9 kk
  subst hnx
  simp only [gc_irem, gf_irem] at hc h
  simp only [Bool.and_eq_true, decide_eq_true_eq] at hc
  obtain ⟨rfl, hl⟩ := hc
  cases Nat.eq_of_beq_eq_true hl
  split at h
  · cases h
    exact o_irem hX (nz_of hc9) hd kk
  · cases h
def gc_fdiv : mGc := fun _ i len _ => decide (i = .fdiv) && Nat.beq len 1
def gf_fdiv : mGf := fun _ _ L st W9 => match st with
  | .float y :: .float x :: r => some (vfb32 (FP.fdiv x y), L, .float (FP.fdiv x y) :: r, W9)
  | _ => none
theorem simg_fdiv : SimG (gc_fdiv, gf_fdiv) := by
  intro X cells slots ad L st W9 pc nx i len x c9 L' st' W' hX hro hd hnx hc h hc9 kk
  subst hnx
  simp only [gc_fdiv, gf_fdiv] at hc h
  simp only [Bool.and_eq_true, decide_eq_true_eq] at hc
  obtain ⟨rfl, hl⟩ := hc
  cases Nat.eq_of_beq_eq_true hl
  split at h
  · cases h
    exact o_fdiv hX (vfb32_ok hc9) hd kk
  · cases h
def gc_ddiv : mGc := fun _ i len _ => decide (i = .ddiv) && Nat.beq len 1
def gf_ddiv : mGf := fun _ _ L st W9 => match st with
  | .double y :: .double x :: r => some (vfb64 (FP.ddiv x y), L, .double (FP.ddiv x y) :: r, W9)
  | _ => none
theorem simg_ddiv : SimG (gc_ddiv, gf_ddiv) := by
  intro X cells slots ad L st W9 pc nx i len x c9 L' st' W' hX hro hd hnx hc h hc9 kk
  subst hnx
  simp only [gc_ddiv, gf_ddiv] at hc h
  simp only [Bool.and_eq_true, decide_eq_true_eq] at hc
  obtain ⟨rfl, hl⟩ := hc
  cases Nat.eq_of_beq_eq_true hl
  split at h
  · cases h
    exact o_ddiv hX (vfb64_ok hc9) hd kk
  · cases h
def gc_f2d : mGc := fun _ i len _ => decide (i = .f2d) && Nat.beq len 1
def gf_f2d : mGf := fun _ _ L st W9 => match st with
  | .float x :: r => some (vfb64 (FP.f2d x), L, .double (FP.f2d x) :: r, W9)
  | _ => none
theorem simg_f2d : SimG (gc_f2d, gf_f2d) := by
  intro X cells slots ad L st W9 pc nx i len x c9 L' st' W' hX hro hd hnx hc h hc9 kk
  subst hnx
  simp only [gc_f2d, gf_f2d] at hc h
  simp only [Bool.and_eq_true, decide_eq_true_eq] at hc
  obtain ⟨rfl, hl⟩ := hc
  cases Nat.eq_of_beq_eq_true hl
  split at h
  · cases h
    exact o_f2d hX (vfb64_ok hc9) hd kk
  · cases h
def gc_iald : mGc := fun _ i len _ => decide (i = .iaload) && Nat.beq len 1
def gf_iald : mGf := fun RO _ L st W9 => match st with
  | .int i :: .ref q :: r => (match mget RO W9 q with
    | some (.inl (1, n, .inl f)) => some (vpb i n, L, .int (f i.toNatClampNeg) :: r, W9)
    | _ => none)
  | _ => none
theorem simg_iald : SimG (gc_iald, gf_iald) := by
  intro X cells slots ad L st W9 pc nx i len x c9 L' st' W' hX hro hd hnx hc h hc9 kk
  subst hnx
  simp only [gc_iald, gf_iald] at hc h
  simp only [Bool.and_eq_true, decide_eq_true_eq] at hc
  obtain ⟨rfl, hl⟩ := hc
  cases Nat.eq_of_beq_eq_true hl
  split at h
  · split at h
    · rename_i hg
      cases h
      exact o_iald hX hg (vpb_ok hc9) hd kk
    · cases h
  · cases h
def gc_lald : mGc := fun _ _ _ _ => false
def gf_lald : mGf := fun RO _ L st W9 => match st with
  | .int i :: .ref q :: r => (match mget RO W9 q with
    | some (.inl (4, n, .inr (.inl f))) => some (vpb i n, L, .long (f i.toNatClampNeg) :: r, W9)
    | _ => none)
  | _ => none
theorem simg_lald : SimG (gc_lald, gf_lald) := by
  intro X cells slots ad L st W9 pc nx i len x c9 L' st' W' hX hro hd hnx hc h hc9 kk
  cases hc
def gc_dald : mGc := fun _ _ _ _ => false
def gf_dald : mGf := fun RO _ L st W9 => match st with
  | .int i :: .ref q :: r => (match mget RO W9 q with
    | some (.inl (5, n, .inr (.inr (.inr (.inl f))))) => some (vpb i n, L, .double (f i.toNatClampNeg) :: r, W9)
    | _ => none)
  | _ => none
theorem simg_dald : SimG (gc_dald, gf_dald) := by
  intro X cells slots ad L st W9 pc nx i len x c9 L' st' W' hX hro hd hnx hc h hc9 kk
  cases hc
def gc_aald : mGc := fun _ i len _ => decide (i = .aaload) && Nat.beq len 1
def gf_aald : mGf := fun RO _ L st W9 => match st with
  | .int i :: .ref q :: r => (match mget RO W9 q with
    | some (.inl (3, n, .inr (.inr (.inr (.inr f))))) => some (vpb i n, L, va_rf (f i.toNatClampNeg) :: r, W9)
    | _ => none)
  | _ => none
theorem simg_aald : SimG (gc_aald, gf_aald) := by
  intro X cells slots ad L st W9 pc nx i len x c9 L' st' W' hX hro hd hnx hc h hc9 kk
  subst hnx
  simp only [gc_aald, gf_aald] at hc h
  simp only [Bool.and_eq_true, decide_eq_true_eq] at hc
  obtain ⟨rfl, hl⟩ := hc
  cases Nat.eq_of_beq_eq_true hl
  split at h
  · split at h
    · rename_i hg
      cases h
      exact o_aald hX hro hg (vpb_ok hc9) hd kk
    · cases h
  · cases h
def gc_bald : mGc := fun _ i len _ => decide (i = .baload) && Nat.beq len 1
def gf_bald : mGf := fun RO _ L st W9 => match st with
  | .int i :: .ref q :: r => (match mget RO W9 q with
    | some (.inl (0, n, .inl f)) => some (vpb i n, L, .int (f i.toNatClampNeg) :: r, W9)
    | some (.inl (2, n, .inl f)) => some (vpb i n, L, .int (f i.toNatClampNeg) :: r, W9)
    | _ => none)
  | _ => none
theorem simg_bald : SimG (gc_bald, gf_bald) := by
  intro X cells slots ad L st W9 pc nx i len x c9 L' st' W' hX hro hd hnx hc h hc9 kk
  subst hnx
  simp only [gc_bald, gf_bald] at hc h
  simp only [Bool.and_eq_true, decide_eq_true_eq] at hc
  obtain ⟨rfl, hl⟩ := hc
  cases Nat.eq_of_beq_eq_true hl
  split at h
  · split at h
    · rename_i hg
      cases h
      exact o_bald hX hg (vpb_ok hc9) hd kk
    · rename_i hg
      cases h
      exact o_zald hX hg (vpb_ok hc9) hd kk
    · cases h
  · cases h
def gc_iast : mGc := fun _ i len _ => decide (i = .iastore) && Nat.beq len 1
def gf_iast : mGf := fun _ _ L st W9 => match st with
  | .int x :: .int i :: .ref q :: r => bif Nat.blt q 1000000 then (match W9[q]? with
    | some (.inl (1, n, .inl f)) => mset W9 q (.inl (1, n, .inl (upd f i.toNatClampNeg x))) (fun w => some (vpb i n, L, r, w)) none
    | _ => none) else none
  | _ => none
theorem simg_iast : SimG (gc_iast, gf_iast) := by
  intro X cells slots ad L st W9 pc nx i len x c9 L' st' W' hX hro hd hnx hc h hc9 kk
  subst hnx
  simp only [gc_iast, gf_iast] at hc h
  simp only [Bool.and_eq_true, decide_eq_true_eq] at hc
  obtain ⟨rfl, hl⟩ := hc
  cases Nat.eq_of_beq_eq_true hl
  split at h
  · rename_i x i q r
    cases hq : Nat.blt q 1000000 with
    | true =>
      rw [hq] at h
      simp only [cond_true] at h
      split at h
      · rename_i hg
        obtain ⟨rfl, rfl, rfl, rfl⟩ := gset_some h
        exact o_iast hX hq hg (vpb_ok hc9) hd kk
      · cases h
    | false => rw [hq] at h; cases h
  · cases h
def gc_bast : mGc := fun _ i len _ => decide (i = .bastore) && Nat.beq len 1
def gf_bast : mGf := fun _ _ L st W9 => match st with
  | .int x :: .int i :: .ref q :: r => bif Nat.blt q 1000000 then (match W9[q]? with
    | some (.inl (0, n, .inl f)) => mset W9 q (.inl (0, n, .inl (upd f i.toNatClampNeg (vp_nar .byte x)))) (fun w => some (vpb i n, L, r, w)) none
    | some (.inl (2, n, .inl f)) => mset W9 q (.inl (2, n, .inl (upd f i.toNatClampNeg (vp_nar .boolean x)))) (fun w => some (vpb i n, L, r, w)) none
    | _ => none) else none
  | _ => none
theorem simg_bast : SimG (gc_bast, gf_bast) := by
  intro X cells slots ad L st W9 pc nx i len x c9 L' st' W' hX hro hd hnx hc h hc9 kk
  subst hnx
  simp only [gc_bast, gf_bast] at hc h
  simp only [Bool.and_eq_true, decide_eq_true_eq] at hc
  obtain ⟨rfl, hl⟩ := hc
  cases Nat.eq_of_beq_eq_true hl
  split at h
  · rename_i x i q r
    cases hq : Nat.blt q 1000000 with
    | true =>
      rw [hq] at h
      simp only [cond_true] at h
      split at h
      · rename_i hg
        obtain ⟨rfl, rfl, rfl, rfl⟩ := gset_some h
        exact o_bast hX hq hg (vpb_ok hc9) hd kk
      · rename_i hg
        obtain ⟨rfl, rfl, rfl, rfl⟩ := gset_some h
        exact o_zast hX hq hg (vpb_ok hc9) hd kk
      · cases h
    | false => rw [hq] at h; cases h
  · cases h
def gc_last : mGc := fun _ _ _ _ => false
def gf_last : mGf := fun _ _ L st W9 => match st with
  | .long x :: .int i :: .ref q :: r => bif Nat.blt q 1000000 then (match W9[q]? with
    | some (.inl (4, n, .inr (.inl f))) => mset W9 q (.inl (4, n, .inr (.inl (vp_updL f i.toNatClampNeg x)))) (fun w => some (vpb i n, L, r, w)) none
    | _ => none) else none
  | _ => none
theorem simg_last : SimG (gc_last, gf_last) := by
  intro X cells slots ad L st W9 pc nx i len x c9 L' st' W' hX hro hd hnx hc h hc9 kk
  cases hc
def gc_dast : mGc := fun _ _ _ _ => false
def gf_dast : mGf := fun _ _ L st W9 => match st with
  | .double x :: .int i :: .ref q :: r => bif Nat.blt q 1000000 then (match W9[q]? with
    | some (.inl (5, n, .inr (.inr (.inr (.inl f))))) => mset W9 q (.inl (5, n, .inr (.inr (.inr (.inl (vf_upd f i.toNatClampNeg x)))))) (fun w => some (vpb i n, L, r, w)) none
    | _ => none) else none
  | _ => none
theorem simg_dast : SimG (gc_dast, gf_dast) := by
  intro X cells slots ad L st W9 pc nx i len x c9 L' st' W' hX hro hd hnx hc h hc9 kk
  cases hc
def gc_aast : mGc := fun _ i len _ => decide (i = .aastore) && Nat.beq len 1
def gf_aast : mGf := fun _ _ L st W9 => match st with
  | .ref u :: .int i :: .ref q :: r => bif Nat.blt q 1000000 && Nat.blt u 1000000 then (match W9[q]?, W9[u]? with
    | some (.inl (3, n, .inr (.inr (.inr (.inr f))))), some (.inr (5, _)) => mset W9 q (.inl (3, n, .inr (.inr (.inr (.inr (va_up f i.toNatClampNeg (some u))))))) (fun w => some (vpb i n, L, r, w)) none
    | _, _ => none) else none
  | _ => none
theorem simg_aast : SimG (gc_aast, gf_aast) := by
  intro X cells slots ad L st W9 pc nx i len x c9 L' st' W' hX hro hd hnx hc h hc9 kk
  subst hnx
  simp only [gc_aast, gf_aast] at hc h
  simp only [Bool.and_eq_true, decide_eq_true_eq] at hc
  obtain ⟨rfl, hl⟩ := hc
  cases Nat.eq_of_beq_eq_true hl
  split at h
  · rename_i u i q r
    cases hq : (Nat.blt q 1000000 && Nat.blt u 1000000) with
    | true =>
      rw [hq] at h
      simp only [cond_true] at h
      simp only [Bool.and_eq_true] at hq
      split at h
      · rename_i n f vs hg hgv
        obtain ⟨rfl, rfl, rfl, rfl⟩ := gset_some h
        exact o_aast hX hq.1 hq.2 hg hgv (vpb_ok hc9) hd kk
      · cases h
    | false => rw [hq] at h; cases h
  · cases h
def gc_copyi : mGc := fun k i len x => match i, x with
  | .invokestatic index, [n1, n2, n3, n4] => wck n1 (.methodLink (mnm k).cls index arraycopyName) && wck n2 (.native arraycopyName) && wck n3 (.static arraycopyName) && wck n4 (.initialized "java/lang/System") && Nat.beq len 3
  | _, _ => false
def gf_copyi : mGf := fun RO _ L st W9 => match st with
  | .int n :: .int dp :: .ref q1 :: .int sp :: .ref q0 :: r => bif Nat.blt q1 1000000 && mcs r then (match mget RO W9 q0, W9[q1]? with
    | some (.inl (1, n0, .inl f)), some (.inl (1, n1, .inl g)) => mset W9 q1 (.inl (1, n1, .inl (va_cpy f g sp.toNatClampNeg dp.toNatClampNeg n.toNatClampNeg))) (fun w => some (cpb sp dp n n0 n1, L, r, w)) none
    | some (.inl (0, n0, .inl f)), some (.inl (0, n1, .inl g)) => mset W9 q1 (.inl (0, n1, .inl (va_cpy f g sp.toNatClampNeg dp.toNatClampNeg n.toNatClampNeg))) (fun w => some (cpb sp dp n n0 n1 && (List.range n.toNatClampNeg).all (fun i => fits .byte (.int (f (sp.toNatClampNeg + i)))), L, r, w)) none
    | _, _ => none) else none
  | _ => none
theorem simg_copyi : SimG (gc_copyi, gf_copyi) := by
  intro X cells slots ad L st W9 pc nx i len x c9 L' st' W' hX hro hd hnx hc h hc9 kk
  subst hnx
  simp only [gc_copyi, gf_copyi] at hc h
  split at h
  · rename_i n dp q1 sp q0 r
    cases hq : (Nat.blt q1 1000000 && mcs r) with
    | true =>
      rw [hq] at h
      simp only [cond_true] at h
      simp only [Bool.and_eq_true] at hq
      split at hc
      · simp only [Bool.and_eq_true] at hc
        obtain ⟨⟨⟨⟨h1, h2⟩, h3⟩, h4⟩, hl⟩ := hc
        cases Nat.eq_of_beq_eq_true hl
        split at h
        · rename_i n0 f n1 g hg0 hg1
          obtain ⟨rfl, rfl, rfl, rfl⟩ := gset_some h
          obtain ⟨g1, g2, g3, g4, g5⟩ := cpb_ok hc9
          exact o_copyi hX (ty := .int) (wck_1 h1) (wck_2 h1) (wck_1 h2) (wck_2 h2) (wck_1 h3) (wck_2 h3) (wck_1 h4) (wck_2 h4) hq.1 hg0 hg1 (fun _ => rfl) rfl g1 g2 g3 g4 g5 (fun _ _ => rfl) hq.2 hd kk
        · rename_i n0 f n1 g hg0 hg1
          obtain ⟨rfl, rfl, rfl, rfl⟩ := gset_some h
          rw [Bool.and_eq_true] at hc9
          obtain ⟨g1, g2, g3, g4, g5⟩ := cpb_ok hc9.1
          have g6 := fun (i : Nat) (hi : i < n.toNatClampNeg) => List.all_eq_true.mp hc9.2 i (List.mem_range.mpr hi)
          exact o_copyi hX (ty := .byte) (wck_1 h1) (wck_2 h1) (wck_1 h2) (wck_2 h2) (wck_1 h3) (wck_2 h3) (wck_1 h4) (wck_2 h4) hq.1 hg0 hg1 (fun _ => rfl) rfl g1 g2 g3 g4 g5 g6 hq.2 hd kk
        · cases h
      · cases hc
    | false => rw [hq] at h; cases h
  · cases h
def mGt : List (mGc × mGf) := [(gc_idiv, gf_idiv), (gc_irem, gf_irem), (gc_fdiv, gf_fdiv), (gc_ddiv, gf_ddiv), (gc_f2d, gf_f2d), (gc_iald, gf_iald), (gc_lald, gf_lald), (gc_dald, gf_dald), (gc_aald, gf_aald), (gc_bald, gf_bald), (gc_iast, gf_iast), (gc_bast, gf_bast), (gc_last, gf_last), (gc_dast, gf_dast), (gc_aast, gf_aast), (gc_copyi, gf_copyi)]
theorem mGt_ok : ∀ q ∈ mGt, SimG q := List.forall_mem_cons.mpr ⟨simg_idiv, List.forall_mem_cons.mpr ⟨simg_irem, List.forall_mem_cons.mpr ⟨simg_fdiv, List.forall_mem_cons.mpr ⟨simg_ddiv, List.forall_mem_cons.mpr ⟨simg_f2d, List.forall_mem_cons.mpr ⟨simg_iald, List.forall_mem_cons.mpr ⟨simg_lald, List.forall_mem_cons.mpr ⟨simg_dald, List.forall_mem_cons.mpr ⟨simg_aald, List.forall_mem_cons.mpr ⟨simg_bald, List.forall_mem_cons.mpr ⟨simg_iast, List.forall_mem_cons.mpr ⟨simg_bast, List.forall_mem_cons.mpr ⟨simg_last, List.forall_mem_cons.mpr ⟨simg_dast, List.forall_mem_cons.mpr ⟨simg_aast, List.forall_mem_cons.mpr ⟨simg_copyi, fun _ h => absurd h List.not_mem_nil⟩⟩⟩⟩⟩⟩⟩⟩⟩⟩⟩⟩⟩⟩⟩⟩
