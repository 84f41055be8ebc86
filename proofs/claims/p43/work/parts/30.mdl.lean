/-! the model's methods, as functions of its row of numbers -/
def isOnB (N : Nat → Int32) (m : Int32) (i : Nat) : Bool := decide (N (63 + 8 * i + 3) = 1) && decide (N (63 + 8 * i + 4) = m)
def wOn (N : Nat → Int32) (m sd : Int32) : Nat → Int32 := sm (fun i => bif isOnB N m i && decide (N (63 + 8 * i + 5) = sd) then N (63 + 8 * i + 1) else 0)
def sOn (N : Nat → Int32) (m : Int32) : Nat → Int32 := sm (fun i => zb (isOnB N m i))
def vOn (N : Nat → Int32) (m : Int32) : Nat → Int32 := sm (fun i => bif isOnB N m i then N (63 + 8 * i + 2) else 0)
def bearN (N : Nat → Int32) (i : Nat) : Int32 := N (15 + 8 * i) * (100 - N (15 + 8 * i + 1)) / 100
def inB (v lo hi : Int32) : Bool := decide (¬ v < lo) && decide (¬ hi < v)
def absB (v : Int32) : Int32 := bif decide (v < 0) then -v else v
def poorI (N : Nat → Int32) (m : Int32) : Nat → Option Nat := pick (isOnB N m) (fun i b => decide (N (63 + 8 * i + 2) < N (63 + 8 * b + 2)))
def leaveN (N : Nat → Int32) (k : Nat) (place : Int32) : Nat → Int32 := upd (upd (upd (upd N (63 + 8 * k + 3) place) (63 + 8 * k + 4) (-1)) (63 + 8 * k + 5) (-1)) (63 + 8 * k + 6) (bif decide (place = 0) then -1 else N 6)
def packN (N : Nat → Int32) (k : Nat) (m sd : Int32) : Nat → Int32 := upd (upd (upd N (63 + 8 * k + 3) 1) (63 + 8 * k + 4) m) (63 + 8 * k + 5) sd
def countN (N : Nat → Int32) (w : Nat) (more : Int32) : Nat → Int32 := upd N (8 + w) (N (8 + w) + more)
def thr (M : mM) (w : Int32) : mM := upM M 145 (upd (M 145) 3 w)
section MDL
variable {RO : List mE} {d sb : Nat} {ext : List sh} {M : mM}
end MDL
