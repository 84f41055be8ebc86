def loadN (N : Nat → Int32) (m : Int32) (S : Nat) : Int32 := wOn N m 0 S + wOn N m 1 S
def prN (N : Nat → Int32) (k i S : Nat) : Int32 := bif decide (N (63 + 8 * k + 3) = 0) then (bif decide (bearN N i < loadN N (Int32.ofNat i) S + N (63 + 8 * k + 1)) then 2 else 0) else 1
def clampB (v : Int32) : Int32 := bif decide (v < 0) then 0 else bif decide (100 < v) then 100 else v
def tireN (N : Nat → Int32) (i : Nat) (more : Int32) : Nat → Int32 := upd N (15 + 8 * i + 1) (clampB (N (15 + 8 * i + 1) + more))
def lostN (N : Nat → Int32) (k : Nat) : Nat → Int32 := leaveN (countN N 2 (N (63 + 8 * k + 2))) k 3
theorem GoP.eq2 {RO : List mE} {d k pc c s : Nat} {L L' st : List Value} {G : List sh} {M M' : mM} {Q : mQ} (h : GoP RO d k L st G M pc c s Q) (hL : L' = L) (hM : M' = M) : GoP RO d k L' st G M' pc c s Q := by
  subst hL hM
  exact h
theorem i_inc {i : Nat} : Int32.ofNat i + 1 = Int32.ofNat (i + 1) := i_add i 1
section MDL
variable {RO : List mE} {d sb : Nat} {ext : List sh} {M : mM}
end MDL
