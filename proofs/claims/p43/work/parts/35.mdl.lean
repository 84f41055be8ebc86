/-! reasons, rests, what is remembered -/
def tiltN (N : Nat → Int32) (i S : Nat) : Int32 := absB (wOn N (Int32.ofNat i) 0 S - wOn N (Int32.ofNat i) 1 S)
def tiltedI (N : Nat → Int32) (S : Nat) : Nat → Option Nat := pick (fun i => decide (N 0 < tiltN N i S)) (fun _ _ => false)
def packedI (N : Nat → Int32) : Nat → Option Nat := pick (fun k => decide (N (63 + 8 * k + 3) = 1)) (fun _ _ => false)
def whyN (N : Nat → Int32) (m S : Nat) : Int32 := bif (packedI N S).isSome then (bif (tiltedI N S m).isSome then 2 else 0) else 1
theorem pick_next {p : Nat → Bool} {i : Nat} (h : pick p (fun _ _ => false) i = none) : pick p (fun _ _ => false) (i + 1) = bif p i then some i else none := by
  rw [pick, h]
theorem pick_stays {p : Nat → Bool} {i a : Nat} (h : pick p (fun _ _ => false) i = some a) : ∀ n, i ≤ n → pick p (fun _ _ => false) n = some a := by
  intro n
  induction n with
  | zero => intro hi; rw [show i = 0 by omega] at h; exact h
  | succ n ih =>
    intro hi
    by_cases e : i = n + 1
    · rw [← e]; exact h
    · rw [pick, ih (by omega)]
      show (bif p n && false then some n else some a) = some a
      rw [Bool.and_false]; rfl
def bringN (N : Nat → Int32) (k : Nat) (kd w v : Int32) : Nat → Int32 := upd (upd (upd (upd (upd (upd (upd (upd N (63 + 8 * k) kd) (63 + 8 * k + 1) w) (63 + 8 * k + 2) v) (63 + 8 * k + 3) 0) (63 + 8 * k + 4) (-1)) (63 + 8 * k + 5) (-1)) (63 + 8 * k + 6) (-1)) (63 + 8 * k + 7) v
def bringsN (N : Nat → Int32) (k : Nat) (kd w v : Int32) : Nat → Int32 := upd (bringN N k kd w v) 4 (bringN N k kd w v 4 + 1)
def leadN (N : Nat → Int32) (k : Nat) (kd n : Int32) : Nat → Int32 := upd (upd N (191 + 2 * k) kd) (191 + 2 * k + 1) n
def leadsN (N : Nat → Int32) (k : Nat) (kd n : Int32) : Nat → Int32 := upd (leadN N k kd n) 5 (leadN N k kd n 5 + 1)
def easeN (N : Nat → Int32) : Nat → (Nat → Int32)
  | 0 => N
  | k + 1 => tireN (easeN N k) k (-(easeN N k 1))
def restN (m : Nat) (N : Nat → Int32) : Nat → (Nat → Int32)
  | 0 => N
  | D + 1 => easeN (upd (restN m N D) 6 (restN m N D 6 + 1)) m
def copyF (O : Nat → Int32) (q : Nat) (N : Nat → Int32) (p k : Nat) : Nat → Int32 := fun j => if q ≤ j ∧ j < q + k then N (p + (j - q)) else O j
theorem copyF_0 {O N : Nat → Int32} {q p : Nat} : copyF O q N p 0 = O := by
  funext j
  rw [copyF, if_neg (by omega)]
theorem copyF_s {O N : Nat → Int32} {q p k : Nat} : upd (copyF O q N p k) (q + k) (N (p + k)) = copyF O q N p (k + 1) := by
  funext j
  by_cases e : j = q + k
  · subst e
    rw [upd_at, copyF, if_pos (by omega), show q + k - q = k by omega]
  · rw [upd_ne e, copyF, copyF]
    by_cases h : q ≤ j ∧ j < q + k
    · rw [if_pos h, if_pos (by omega)]
    · rw [if_neg h, if_neg (by omega)]
theorem upd_upd {f : Nat → Int32} {i : Nat} {a b : Int32} : upd (upd f i a) i b = upd f i b := by
  funext j
  by_cases e : j = i
  · rw [e, upd_at, upd_at]
  · rw [upd_ne e, upd_ne e, upd_ne e]
def shiftF (O : Nat → Int32) (k : Nat) : Nat → Int32 := fun j => if j + 207 < k then O (j + 207) else O j
theorem shiftF_0 {O : Nat → Int32} : shiftF O 207 = O := by
  funext j
  rw [shiftF, if_neg (by omega)]
theorem shiftF_s {O : Nat → Int32} {k : Nat} (h : 207 ≤ k) : upd (shiftF O k) (k - 207) (shiftF O k k) = shiftF O (k + 1) := by
  funext j
  by_cases e : j = k - 207
  · rw [e, upd_at, shiftF, shiftF, if_neg (by omega), if_pos (by omega), show k - 207 + 207 = k by omega]
  · rw [upd_ne e, shiftF, shiftF]
    by_cases h : j + 207 < k
    · rw [if_pos h, if_pos (by omega)]
    · rw [if_neg h, if_neg (by omega)]
/-- the rows kept, and how many, behind one more -/
def remC (c : Nat) : Nat := bif Nat.beq c 10 then 9 else c
def remO (O N : Nat → Int32) (c : Nat) : Nat → Int32 := copyF (bif Nat.beq c 10 then shiftF O 2070 else O) (remC c * 207) N 0 207
def remM (M : mM) (c : Nat) : mM := upM (upM M 151 (remO (M 151) (M 149) c)) 145 (upd (M 145) 7 (Int32.ofNat (remC c + 1)))
section MDL
variable {RO : List mE} {d sb : Nat} {ext : List sh} {M : mM}
end MDL
