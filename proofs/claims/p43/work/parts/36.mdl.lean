/-! the best sack, letters, sums -/
def bestI (N : Nat → Int32) (i S : Nat) : Nat → Option Nat := pick (fun k => decide (prN N k i S = 0)) (fun k b => decide (N (63 + 8 * b + 2) * N (63 + 8 * k + 1) < N (63 + 8 * k + 2) * N (63 + 8 * b + 1)))
def lightN (N : Nat → Int32) (m : Int32) (S : Nat) : Int32 := zb (decide (wOn N m 1 S < wOn N m 0 S))
def lettI (N : Nat → Int32) (i : Nat) : Nat → Option Nat := pick (fun n => decide (N (15 + 8 * i + 2 + n) = 0)) (fun _ _ => false)
def lettN (N : Nat → Int32) (i : Nat) : Nat := (lettI N i 6).getD 6
def milesN (N : Nat → Int32) : Nat → Int32 := sm (fun k => bif decide (N (191 + 2 * k) = 0) then N (191 + 2 * k + 1) else 0)
def placeN (N : Nat → Int32) (p : Int32) : Nat → Int32 := sm (fun k => zb (decide (N (63 + 8 * k + 3) = p)))
def gapS (N : Nat → Int32) : Nat → Int32
  | 0 => 0
  | k + 1 => gapS N k + N (63 + 8 * k + 7) - (bif decide (1 < N (63 + 8 * k + 3)) then 0 else N (63 + 8 * k + 2))
def overN (N : Nat → Int32) (S : Nat) : Nat → Int32 := sm (fun k => bif decide (bearN N k < loadN N (Int32.ofNat k) S) then loadN N (Int32.ofNat k) S - bearN N k else 0)
def gapN (N : Nat → Int32) (m S : Nat) : Int32 := absB (gapS N S - N 9 - N 10 - N 11 - N 12) + absB (N 7 - N 9 + N 13) + overN N S m
theorem pick_off {p : Nat → Bool} {b : Nat → Nat → Bool} {i : Nat} (h : p i = false) : pick p b (i + 1) = pick p b i := by
  rw [pick]
  cases pick p b i with
  | none => show (bif p i then some i else none) = none; rw [h]; rfl
  | some c => show (bif p i && b i c then some i else some c) = some c; rw [h]; rfl
theorem pick_new {p : Nat → Bool} {b : Nat → Nat → Bool} {i : Nat} (hp : pick p b i = none) (h : p i = true) : pick p b (i + 1) = some i := by
  rw [pick, hp]
  show (bif p i then some i else none) = some i
  rw [h]; rfl
theorem pick_old {p : Nat → Bool} {b : Nat → Nat → Bool} {i c : Nat} (hp : pick p b i = some c) (h : p i = true) : pick p b (i + 1) = bif b i c then some i else some c := by
  rw [pick, hp]
  show (bif p i && b i c then some i else some c) = _
  rw [h]; rfl
theorem lettN_le {N : Nat → Int32} {i : Nat} : lettN N i ≤ 6 := by
  rw [lettN]
  cases h : lettI N i 6 with
  | none => exact Nat.le_refl _
  | some a => exact Nat.le_of_lt (pick_lt h).1
section MDL
variable {RO : List mE} {d sb : Nat} {ext : List sh} {M : mM}
end MDL
