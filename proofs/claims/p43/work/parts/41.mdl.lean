/-! feeding, writing -/
def byB (x : Int32) : Int32 := vp_nar .byte (x.toInt8.toInt32)
def feed1 (I : Nat → Int32) (n : Nat) (x : Int32) : Nat → Int32 := upd (upd (upd (upd I n (byB (x >>> (24 &&& 31)))) (n + 1) (byB (x >>> (16 &&& 31)))) (n + 2) (byB (x >>> (8 &&& 31)))) (n + 3) (byB x)
def feedM1 (M : mM) (n : Nat) (x : Int32) : mM := upM (upM M 155 (feed1 (M 155) n x)) 145 (upd (M 145) 13 (Int32.ofNat (n + 4)))
def wr1 (M : mM) (p : Nat) (x : Int32) : mM := upM (upM M 156 (upd (M 156) p (byB x))) 145 (upd (M 145) 15 (Int32.ofNat (p + 1)))
def wrL (M : mM) (p : Nat) : List Int32 → mM
  | [] => M
  | x :: l => wrL (wr1 M p x) (p + 1) l
theorem wrL_app {l l' : List Int32} : ∀ {M : mM} {p : Nat}, wrL M p (l ++ l') = wrL (wrL M p l) (p + l.length) l' := by
  induction l with
  | nil => intro M p; rfl
  | cons x l ih =>
    intro M p
    show wrL (wr1 M p x) (p + 1) (l ++ l') = _
    rw [ih, List.length_cons, show p + 1 + l.length = p + (l.length + 1) by omega]; rfl
theorem wrL_15 : ∀ {l : List Int32} {M : mM} {p : Nat}, M 145 15 = Int32.ofNat p → wrL M p l 145 15 = Int32.ofNat (p + l.length) := by
  intro l
  induction l with
  | nil => intro M p h; exact h
  | cons x l ih =>
    intro M p h
    rw [wrL, ih (p := p + 1), List.length_cons, show p + 1 + l.length = p + (l.length + 1) by omega]
    rfl
theorem wrL_q {q : Nat} (h1 : q ≠ 145) (h2 : q ≠ 156) : ∀ {l : List Int32} {M : mM} {p : Nat}, wrL M p l q = M q := by
  intro l
  induction l with
  | nil => intro M p; rfl
  | cons x l ih => intro M p; rw [wrL, ih, wr1, upM_ne h1, upM_ne h2]
def digs (n : Nat) : List Int32 := if n < 10 then [Int32.ofNat (48 + n)] else if n < 100 then [Int32.ofNat (48 + n / 10), Int32.ofNat (48 + n % 10)] else [Int32.ofNat (48 + n / 100), Int32.ofNat (48 + n / 10 % 10), Int32.ofNat (48 + n % 10)]
theorem digs_len {n : Nat} : (digs n).length ≤ 3 := by
  unfold digs
  split
  · exact (by decide : 1 ≤ 3)
  · split
    · exact (by decide : 2 ≤ 3)
    · exact (by decide : 3 ≤ 3)
theorem i_rem {a : Nat} (h : a < 1000000) : Int32.ofNat a - Int32.ofNat a / 10 * 10 = Int32.ofNat (a % 10) := by
  rw [show (10 : Int32) = Int32.ofNat 10 from rfl, i_div h (by omega), i_mul, i_sub (by omega), show a - a / 10 * 10 = a % 10 by omega]
/-- the sacks of a side, with commas between -/
def sideL (N : Nat → Int32) (m sd : Int32) : Nat → List Int32
  | 0 => []
  | k + 1 => bif isOnB N m k && decide (N (63 + 8 * k + 5) = sd) then (bif (sideL N m sd k).isEmpty then digs k else sideL N m sd k ++ 44 :: digs k) else sideL N m sd k
theorem digs_ne {n : Nat} : (digs n).isEmpty = false := by
  unfold digs
  split
  · rfl
  · split <;> rfl
section MDL
variable {RO : List mE} {d sb : Nat} {ext : List sh} {M : mM} {Q : mQ}
end MDL
