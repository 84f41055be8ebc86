/-! the text, read: a function of its bytes; the row, how many mules, sacks, stages, and the place behind -/
abbrev TS := (Nat → Int32) × Nat × Nat × Nat × Nat
abbrev PR := (Nat × Nat) ⊕ TS
def newMuleN (B : Nat → Nat) (s p : Nat) (N : Nat → Int32) (m : Nat) (v : Int32) : Nat → Int32 := fun j => if j = 15 + 8 * m then v else if j = 15 + 8 * m + 1 then 0 else if 15 + 8 * m + 2 ≤ j ∧ j < 15 + 8 * m + 8 then (if j - (15 + 8 * m + 2) < p - s then Int32.ofNat (B (s + (j - (15 + 8 * m + 2)))) else 0) else if j = 3 then Int32.ofNat (m + 1) else N j
def pMule (B : Nat → Nat) (n x0 e : Nat) (N : Nat → Int32) (m S t : Nat) : PR := if m = 6 then .inl (5, x0) else match pName B n e true with
  | .inl er => .inl er
  | .inr (s, p) => if mulIx B s p N m < m then .inl (4, s) else match pNum B n p true 10 300 with
    | .inl er => .inl er
    | .inr (v, e') => .inr (newMuleN B s p N m v, m + 1, S, t, e')
/-- which of cnt words from q0 on stands here -/
def pWord (B : Nat → Nat) (n e : Nat) (lr : Bool) (q0 cnt : Nat) : (Nat × Nat) ⊕ (Nat × Nat) := if tokK B n e lr = 1 ∧ rt (fun i => !isW B (skp B n e) (tokE B n e) (q0 + i)) cnt 0 < cnt then .inr (rt (fun i => !isW B (skp B n e) (tokE B n e) (q0 + i)) cnt 0, tokE B n e) else .inl (1, skp B n e)
def pSack (B : Nat → Nat) (n x0 e : Nat) (N : Nat → Int32) (m S t : Nat) : PR := if S = 16 then .inl (5, x0) else match pWord B n e true 9 4 with
  | .inl er => .inl er
  | .inr (kd, e1) => match pNum B n e1 true 1 99 with
    | .inl er => .inl er
    | .inr (w, e2) => match pNum B n e2 true 0 999 with
      | .inl er => .inl er
      | .inr (v, e3) => .inr (bringsN N S (Int32.ofNat kd) w v, m, S + 1, t, e3)
def mostL (k : Nat) : Int32 := match k with
  | 0 => 99
  | 1 => 9
  | _ => 24
def pStage (B : Nat → Nat) (n x0 e k : Nat) (N : Nat → Int32) (m S t : Nat) : PR := if t = 8 then .inl (5, x0) else match pNum B n e true 1 (mostL k) with
  | .inl er => .inl er
  | .inr (v, e') => .inr (leadsN N t (Int32.ofNat k) v, m, S, t + 1, e')
def pPack (B : Nat → Nat) (n e : Nat) (N : Nat → Int32) (m S t : Nat) : PR := match pNum B n e true 0 (Int32.ofNat S - 1) with
  | .inl er => .inl er
  | .inr (i, e1) => match pName B n e1 true with
    | .inl er => .inl er
    | .inr (s, p) => if mulIx B s p N m < m then (if prN N i.toNatClampNeg (mulIx B s p N m) S = 0 then (match pWord B n p true 13 2 with
      | .inl er => .inl er
      | .inr (sd, e') => .inr (packN N i.toNatClampNeg (Int32.ofNat (mulIx B s p N m)) (Int32.ofNat sd), m, S, t, e')) else .inl (6, s)) else .inl (3, s)
def restMost (N : Nat → Int32) : Int32 := if 9999 - N 6 < 99 then 9999 - N 6 else 99
def pRest (B : Nat → Nat) (n e : Nat) (N : Nat → Int32) (m S t : Nat) : PR := match pNum B n e true 1 (restMost N) with
  | .inl er => .inl er
  | .inr (v, e') => .inr (restN m N v.toNatClampNeg, m, S, t, e')
def pTrip (x0 e : Nat) (N : Nat → Int32) (m S t : Nat) : PR := if whyN N m S = 0 ∧ N 6 ≠ 9999 then .inr (tripsN (gN (fun _ => 0) N S m) N m S t, m, S, t, e) else .inl (6, x0)
def pLine (B : Nat → Nat) (n e : Nat) (N : Nat → Int32) (m S t : Nat) : PR := if tokK B n e false = 1 then (if isW B (skp B n e) (tokE B n e) 1 then pMule B n (skp B n e) (tokE B n e) N m S t else if isW B (skp B n e) (tokE B n e) 2 then pSack B n (skp B n e) (tokE B n e) N m S t else if isW B (skp B n e) (tokE B n e) 3 then pStage B n (skp B n e) (tokE B n e) 0 N m S t else if isW B (skp B n e) (tokE B n e) 4 then pStage B n (skp B n e) (tokE B n e) 1 N m S t else if isW B (skp B n e) (tokE B n e) 5 then pStage B n (skp B n e) (tokE B n e) 2 N m S t else if isW B (skp B n e) (tokE B n e) 6 then pPack B n (tokE B n e) N m S t else if isW B (skp B n e) (tokE B n e) 8 then pRest B n (tokE B n e) N m S t else if isW B (skp B n e) (tokE B n e) 7 then pTrip (skp B n e) (tokE B n e) N m S t else .inl (1, skp B n e)) else .inl (1, skp B n e)
/-- lines, while a semicolon stands behind -/
def pLines (B : Nat → Nat) (n : Nat) : Nat → TS → PR
  | 0, x => .inr x
  | f + 1, (N, m, S, t, e) => match pEnd B n e true with
    | .inl er => .inl er
    | .inr (false, e') => .inr (N, m, S, t, e')
    | .inr (true, e') => match pLine B n e' N m S t with
      | .inl er => .inl er
      | .inr x => pLines B n f x
/-- the first line: the word train and three numbers -/
def setN (N : Nat → Int32) (a b c : Int32) : Nat → Int32 := upd (upd (upd N 0 a) 1 b) 2 c
def pHead (Z : Nat → Int32) (B : Nat → Nat) (n : Nat) : PR := if tokK B n 0 false = 1 ∧ isW B (skp B n 0) (tokE B n 0) 0 = true then (match pNum B n (tokE B n 0) true 0 99 with
  | .inl er => .inl er
  | .inr (a, e1) => match pNum B n e1 true 0 50 with
    | .inl er => .inl er
    | .inr (b, e2) => match pNum B n e2 true 0 50 with
      | .inl er => .inl er
      | .inr (c, e3) => .inr (setN Z a b c, 0, 0, 0, e3)) else .inl (1, skp B n 0)
def pText (Z : Nat → Int32) (B : Nat → Nat) (n : Nat) : PR := match pHead Z B n with
  | .inl er => .inl er
  | .inr x => pLines B n 701 x
theorem legN_g {g g' : Nat → Int32} {st S : Nat} {N : Nat → Int32} : ∀ k, (∀ i, i < k → g i = g' i) → legN g st S N k = legN g' st S N k := by
  intro k
  induction k with
  | zero => intro _; rfl
  | succ k ih =>
    intro h
    rw [legN, legN, ih (fun i hi => h i (by omega)), h k (by omega)]
theorem wayN_g {g g' : Nat → Int32} {m S : Nat} {N : Nat → Int32} (h : ∀ i, i < m → g i = g' i) : ∀ t, wayN g m S N t = wayN g' m S N t := by
  intro t
  induction t with
  | zero => rfl
  | succ t ih => rw [wayN, wayN, ih, legN_g m h]
theorem payN_g {g g' N : Nat → Int32} : ∀ k, (∀ i, i < k → g i = g' i) → payN g N k = payN g' N k := by
  intro k
  induction k with
  | zero => intro _; rfl
  | succ k ih =>
    intro h
    rw [payN, payN, ih (fun i hi => h i (by omega)), h k (by omega)]
/-- where the going stood before doesn't matter -/
theorem trips_G {G0 G1 N : Nat → Int32} {m S t : Nat} : tripsN (gN G0 N S m) N m S t = tripsN (gN G1 N S m) N m S t := by
  have h : ∀ i, i < m → gN G0 N S m i = gN G1 N S m i := fun i hi => by rw [gN_at m hi, gN_at m hi]
  rw [tripsN, tripsN, wayN_g h, payN_g m h]
