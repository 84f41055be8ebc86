/-! feeding, writing -/
def byB (x : Int32) : Int32 := vp_nar .byte (x.toInt8.toInt32)
def feed1 (I : Nat → Int32) (n : Nat) (x : Int32) : Nat → Int32 := upd (upd (upd (upd I n (byB (x >>> (24 &&& 31)))) (n + 1) (byB (x >>> (16 &&& 31)))) (n + 2) (byB (x >>> (8 &&& 31)))) (n + 3) (byB x)
def feedM1 (M : mM) (n : Nat) (x : Int32) : mM := upM (upM M 155 (feed1 (M 155) n x)) 145 (upd (M 145) 13 (Int32.ofNat (n + 4)))
def wr1 (M : mM) (p : Nat) (x : Int32) : mM := upM (upM M 156 (upd (M 156) p (byB x))) 145 (upd (M 145) 15 (Int32.ofNat (p + 1)))
def wrL (M : mM) (p : Nat) : List Int32 → mM
  | [] => M
  | x :: l => wrL (wr1 M p x) (p + 1) l
theorem wrL_app {l l' : List Int32} : ∀ {M : mM} {p : Nat}, wrL M p (l ++ l') = wrL (wrL M p l) (p + l.length) l' := by
  induction l with
  | nil => intro M p; rfl
  | cons x l ih =>
    intro M p
    show wrL (wr1 M p x) (p + 1) (l ++ l') = _
    rw [ih, List.length_cons, show p + 1 + l.length = p + (l.length + 1) by omega]; rfl
theorem wrL_15 : ∀ {l : List Int32} {M : mM} {p : Nat}, M 145 15 = Int32.ofNat p → wrL M p l 145 15 = Int32.ofNat (p + l.length) := by
  intro l
  induction l with
  | nil => intro M p h; exact h
  | cons x l ih =>
    intro M p h
    rw [wrL, ih (p := p + 1), List.length_cons, show p + 1 + l.length = p + (l.length + 1) by omega]
    rfl
theorem wrL_q {q : Nat} (h1 : q ≠ 145) (h2 : q ≠ 156) : ∀ {l : List Int32} {M : mM} {p : Nat}, wrL M p l q = M q := by
  intro l
  induction l with
  | nil => intro M p; rfl
  | cons x l ih => intro M p; rw [wrL, ih, wr1, upM_ne h1, upM_ne h2]
def digs (n : Nat) : List Int32 := if n < 10 then [Int32.ofNat (48 + n)] else if n < 100 then [Int32.ofNat (48 + n / 10), Int32.ofNat (48 + n % 10)] else [Int32.ofNat (48 + n / 100), Int32.ofNat (48 + n / 10 % 10), Int32.ofNat (48 + n % 10)]
theorem digs_len {n : Nat} : (digs n).length ≤ 3 := by
  unfold digs
  split
  · exact (by decide : 1 ≤ 3)
  · split
    · exact (by decide : 2 ≤ 3)
    · exact (by decide : 3 ≤ 3)
theorem i_rem {a : Nat} (h : a < 1000000) : Int32.ofNat a - Int32.ofNat a / 10 * 10 = Int32.ofNat (a % 10) := by
  rw [show (10 : Int32) = Int32.ofNat 10 from rfl, i_div h (by omega), i_mul, i_sub (by omega), show a - a / 10 * 10 = a % 10 by omega]
/-- the sacks of a side, with commas between -/
def sideL (N : Nat → Int32) (m sd : Int32) : Nat → List Int32
  | 0 => []
  | k + 1 => bif isOnB N m k && decide (N (63 + 8 * k + 5) = sd) then (bif (sideL N m sd k).isEmpty then digs k else sideL N m sd k ++ 44 :: digs k) else sideL N m sd k
theorem digs_ne {n : Nat} : (digs n).isEmpty = false := by
  unfold digs
  split
  · rfl
  · split <;> rfl
section MDL
variable {RO : List mE} {d sb : Nat} {ext : List sh} {M : mM} {Q : mQ}
theorem e_thrown : EvR RO (d + 1) 223 [.ref 145] (gW sb ext) M (some (.int (M 145 3))) M := by
  refine EvP.wp [] 40 rfl ?_
  exact ⟨rfl, rfl, rfl, rfl, rfl⟩
theorem e_errorCode : EvR RO (d + 2) 148 [.ref 145] (gW sb ext) M (some (.int (M 145 16))) (thr M 0) := by
  refine EvP.wp [] 40 rfl ?_
  refine e_told.use ?_
  exact ⟨rfl, rfl, rfl, rfl, rfl⟩
theorem e_errorPosition : EvR RO (d + 2) 149 [.ref 145] (gW sb ext) M (some (.int (M 145 17))) (thr M 0) := by
  refine EvP.wp [] 40 rfl ?_
  refine e_told.use ?_
  exact ⟨rfl, rfl, rfl, rfl, rfl⟩
theorem e_feeds {n : Nat} {x : Int32} (hn : n + 4 ≤ 700) (hN : M 145 13 = Int32.ofNat n) : EvR RO (d + 1) 153 [.ref 145, .int x] (gW sb ext) M none (feedM1 M n x) := by
  refine EvP.wp [] 60 rfl ?_
  refine ⟨n, hN, by omega, ?_⟩
  refine ⟨n + 1, by rw [← i_add n 1, ← hN]; rfl, by omega, ?_⟩
  refine ⟨n + 2, by rw [← i_add n 2, ← hN]; rfl, by omega, ?_⟩
  refine ⟨n + 3, by rw [← i_add n 3, ← hN]; rfl, by omega, ?_⟩
  refine ⟨rfl, rfl, ?_, rfl, rfl⟩
  simp only [feedM1]
  rw [← i_add n 4, ← hN]
  simp only [upM_at, upM_upM]; rfl
theorem e_feed {n : Nat} {a b c e f : Int32} (hn : n ≤ 700) (hN : M 145 13 = Int32.ofNat n)
    (h0 : 680 < n → Q (.inl (some (.int 0))) (gW sb ext) (thr M 1) 0 0)
    (h1 : n ≤ 680 → Q (.inl (some (.int (Int32.ofNat (n + 20))))) (gW sb ext) (thr (feedM1 (feedM1 (feedM1 (feedM1 (feedM1 M n a) (n + 4) b) (n + 8) c) (n + 12) e) (n + 16) f) 0) 0 0) : EvP RO (d + 2) 152 [.ref 145, .int a, .int b, .int c, .int e, .int f] (gW sb ext) M Q := by
  refine EvP.wp [] 60 rfl ?_
  refine gt_if (b := 680) hN rfl (by omega) (by omega) (fun h => ?_) (fun h => ?_)
  · refine e_refuse.use ?_
    exact h0 h
  · refine (e_feeds (M := M) (n := n) (by omega) hN).use ?_
    refine (e_feeds (M := feedM1 M n a) (n := n + 4) (by omega) rfl).use ?_
    refine (e_feeds (M := feedM1 (feedM1 M n a) (n + 4) b) (n := n + 8) (by omega) rfl).use ?_
    refine (e_feeds (M := feedM1 (feedM1 (feedM1 M n a) (n + 4) b) (n + 8) c) (n := n + 12) (by omega) rfl).use ?_
    refine (e_feeds (M := feedM1 (feedM1 (feedM1 (feedM1 M n a) (n + 4) b) (n + 8) c) (n + 12) e) (n := n + 16) (by omega) rfl).use ?_
    refine e_told.use ?_
    exact h1 h
theorem e_writes {p : Nat} {x : Int32} (hp : p < 120) (hN : M 145 15 = Int32.ofNat p) : EvR RO (d + 1) 247 [.ref 145, .int x] (gW sb ext) M none (wr1 M p x) := by
  refine EvP.wp [] 40 rfl ?_
  refine ⟨p, hN, by omega, ?_⟩
  refine ⟨rfl, rfl, ?_, rfl, rfl⟩
  rw [wr1, ← i_inc, ← hN]; rfl
theorem e_writesX {p : Nat} {x y : Int32} (hx : x = y) (hp : p < 120) (hN : M 145 15 = Int32.ofNat p) : EvR RO (d + 1) 247 [.ref 145, .int x] (gW sb ext) M none (wr1 M p y) := by
  subst hx
  exact e_writes hp hN
theorem e_writesNumber {p n : Nat} (hp : p + (digs n).length ≤ 120) (hn : n < 1000) (hN : M 145 15 = Int32.ofNat p) : EvR RO (d + 2) 248 [.ref 145, .int (Int32.ofNat n)] (gW sb ext) M none (wrL M p (digs n)) := by
  refine EvR.of (fun Q hQ => ?_)
  have dv : ∀ a b : Nat, a < 1000000 → b < 1000000 → Int32.ofNat a / Int32.ofNat b = Int32.ofNat (a / b) := fun a b h1 h2 => i_div h1 h2
  refine EvP.wp [] 90 rfl ?_
  refine ⟨by decide, ?_⟩
  unfold digs at hp hQ
  refine gt_if (a := n / 1) (b := 9) (dv n 1 (by omega) (by omega)) rfl (by omega) (by omega) (fun h => ?_) (fun h => ?_)
  · rw [if_neg (by omega)] at hp hQ
    refine ⟨by decide, ?_⟩
    refine gt_if (a := n / 10) (b := 9) (dv n 10 (by omega) (by omega)) rfl (by omega) (by omega) (fun h2 => ?_) (fun h2 => ?_)
    · rw [if_neg (by omega)] at hp hQ
      have hp : p + 3 ≤ 120 := hp
      refine ⟨by decide, ?_⟩
      refine gt_if (a := n / 100) (b := 9) (dv n 100 (by omega) (by omega)) rfl (by omega) (by omega) (fun h3 => by omega) (fun h3 => ?_)
      refine ⟨fun _ => ?_, fun h => absurd (by decide) h⟩
      refine ⟨by decide, by decide, ?_⟩
      refine (e_writesX (M := M) (p := p + 0) (y := Int32.ofNat (48 + n / 100)) (by
        show (48 : Int32) + (Int32.ofNat n / (1 * 10 * 10) - Int32.ofNat n / (1 * 10 * 10) / 10 * 10) = Int32.ofNat (48 + n / 100)
        rw [show Int32.ofNat n / (1 * 10 * 10) = Int32.ofNat (n / 100) from dv n 100 (by omega) (by omega), i_rem (by omega), show (48 : Int32) = Int32.ofNat 48 from rfl, i_add, show n / 100 % 10 = n / 100 by omega]) (by omega) hN).use ?_
      refine ⟨by decide, ?_⟩
      refine ⟨fun _ => ?_, fun h => absurd (by decide) h⟩
      refine ⟨by decide, by decide, ?_⟩
      refine (e_writesX (M := (wr1 M (p + 0) (Int32.ofNat (48 + n / 100)))) (p := p + 1) (y := Int32.ofNat (48 + n / 10 % 10)) (by
        show (48 : Int32) + (Int32.ofNat n / (1 * 10 * 10 / 10) - Int32.ofNat n / (1 * 10 * 10 / 10) / 10 * 10) = Int32.ofNat (48 + n / 10 % 10)
        rw [show Int32.ofNat n / (1 * 10 * 10 / 10) = Int32.ofNat (n / 10) from dv n 10 (by omega) (by omega), i_rem (by omega), show (48 : Int32) = Int32.ofNat 48 from rfl, i_add, show n / 10 % 10 = n / 10 % 10 by omega]) (by omega) rfl).use ?_
      refine ⟨by decide, ?_⟩
      refine ⟨fun _ => ?_, fun h => absurd (by decide) h⟩
      refine ⟨by decide, by decide, ?_⟩
      refine (e_writesX (M := (wr1 (wr1 M (p + 0) (Int32.ofNat (48 + n / 100))) (p + 1) (Int32.ofNat (48 + n / 10 % 10)))) (p := p + 2) (y := Int32.ofNat (48 + n % 10)) (by
        show (48 : Int32) + (Int32.ofNat n / (1 * 10 * 10 / 10 / 10) - Int32.ofNat n / (1 * 10 * 10 / 10 / 10) / 10 * 10) = Int32.ofNat (48 + n % 10)
        rw [show Int32.ofNat n / (1 * 10 * 10 / 10 / 10) = Int32.ofNat (n / 1) from dv n 1 (by omega) (by omega), i_rem (by omega), show (48 : Int32) = Int32.ofNat 48 from rfl, i_add, show n / 1 % 10 = n % 10 by omega]) (by omega) rfl).use ?_
      refine ⟨by decide, ?_⟩
      refine ⟨fun h => absurd h (by decide), fun _ => ?_⟩
      exact hQ
    · rw [if_pos (by omega)] at hp hQ
      have hp : p + 2 ≤ 120 := hp
      refine ⟨fun _ => ?_, fun h => absurd (by decide) h⟩
      refine ⟨by decide, by decide, ?_⟩
      refine (e_writesX (M := M) (p := p + 0) (y := Int32.ofNat (48 + n / 10)) (by
        show (48 : Int32) + (Int32.ofNat n / (1 * 10) - Int32.ofNat n / (1 * 10) / 10 * 10) = Int32.ofNat (48 + n / 10)
        rw [show Int32.ofNat n / (1 * 10) = Int32.ofNat (n / 10) from dv n 10 (by omega) (by omega), i_rem (by omega), show (48 : Int32) = Int32.ofNat 48 from rfl, i_add, show n / 10 % 10 = n / 10 by omega]) (by omega) hN).use ?_
      refine ⟨by decide, ?_⟩
      refine ⟨fun _ => ?_, fun h => absurd (by decide) h⟩
      refine ⟨by decide, by decide, ?_⟩
      refine (e_writesX (M := (wr1 M (p + 0) (Int32.ofNat (48 + n / 10)))) (p := p + 1) (y := Int32.ofNat (48 + n % 10)) (by
        show (48 : Int32) + (Int32.ofNat n / (1 * 10 / 10) - Int32.ofNat n / (1 * 10 / 10) / 10 * 10) = Int32.ofNat (48 + n % 10)
        rw [show Int32.ofNat n / (1 * 10 / 10) = Int32.ofNat (n / 1) from dv n 1 (by omega) (by omega), i_rem (by omega), show (48 : Int32) = Int32.ofNat 48 from rfl, i_add, show n / 1 % 10 = n % 10 by omega]) (by omega) rfl).use ?_
      refine ⟨by decide, ?_⟩
      refine ⟨fun h => absurd h (by decide), fun _ => ?_⟩
      exact hQ
  · rw [if_pos (by omega)] at hp hQ
    have hp : p + 1 ≤ 120 := hp
    refine ⟨fun _ => ?_, fun h => absurd (by decide) h⟩
    refine ⟨by decide, by decide, ?_⟩
    refine (e_writesX (M := M) (p := p + 0) (y := Int32.ofNat (48 + n)) (by
        show (48 : Int32) + (Int32.ofNat n / 1 - Int32.ofNat n / 1 / 10 * 10) = Int32.ofNat (48 + n)
        rw [show Int32.ofNat n / 1 = Int32.ofNat (n / 1) from dv n 1 (by omega) (by omega), i_rem (by omega), show (48 : Int32) = Int32.ofNat 48 from rfl, i_add, show n / 1 % 10 = n by omega]) (by omega) hN).use ?_
    refine ⟨by decide, ?_⟩
    refine ⟨fun h => absurd h (by decide), fun _ => ?_⟩
    exact hQ
end MDL
