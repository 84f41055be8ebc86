/-! the machine: one step, a run; what it answers, the JVM answers -/
def mdef (ci : Nat) : List Value := (bif Nat.blt ci 3 then (bif Nat.blt ci 1 then (bif Nat.beq ci 0 then [.null, .int 0, .int 0, .int 0] else []) else (bif Nat.blt ci 2 then (bif Nat.beq ci 1 then [.null, .int 0, .int 0, .int 0] else []) else (bif Nat.beq ci 2 then [.null, .int 0, .int 0] else []))) else (bif Nat.blt ci 5 then (bif Nat.blt ci 4 then (bif Nat.beq ci 3 then [.null, .null, .int 0, .int 0, .int 0, .int 0, .int 0, .int 0, .int 0, .int 0, .int 0] else []) else (bif Nat.beq ci 4 then [.int 0, .null, .int 0] else [])) else (bif Nat.blt ci 6 then (bif Nat.beq ci 5 then [.null, .null, .null, .null, .null, .int 0, .int 0] else []) else (bif Nat.beq ci 6 then [.null, .null, .null, .null, .null, .null, .null, .null] else []))))
def mhx (k : Nat) : List (Nat × Nat × Nat × Nat × Nat × Nat × Nat × Nat × Nat) := (bif Nat.blt k 363 then (bif Nat.blt k 357 then (bif Nat.blt k 355 then (bif Nat.beq k 354 then [(0, 7, 8, 34, 1, 4, 2, 3165, 3067), (0, 7, 13, 36, 0, 4, 2, 3166, 3134)] else []) else (bif Nat.blt k 356 then (bif Nat.beq k 355 then [(0, 5, 6, 45, 2, 2, 1, 3206, 3217)] else []) else (bif Nat.beq k 356 then [(0, 5, 6, 45, 2, 2, 1, 3206, 3217)] else []))) else (bif Nat.blt k 360 then (bif Nat.beq k 357 then [(6, 11, 12, 34, 1, 3, 1, 3165, 3067), (6, 11, 16, 36, 0, 3, 1, 3166, 3134)] else []) else (bif Nat.blt k 361 then (bif Nat.beq k 360 then [(0, 7, 8, 45, 2, 4, 2, 3206, 3217), (0, 7, 13, 34, 1, 4, 2, 3165, 3067), (0, 7, 18, 36, 0, 4, 2, 3166, 3134)] else []) else (bif Nat.beq k 361 then [(0, 5, 6, 34, 1, 2, 1, 3165, 3067), (0, 5, 10, 36, 0, 2, 1, 3166, 3134)] else [])))) else (bif Nat.blt k 369 then (bif Nat.blt k 364 then (bif Nat.beq k 363 then [(0, 6, 7, 34, 1, 3, 1, 3165, 3067)] else []) else (bif Nat.blt k 365 then (bif Nat.beq k 364 then [(0, 5, 6, 45, 2, 2, 1, 3206, 3217), (0, 5, 10, 36, 0, 2, 1, 3166, 3134)] else []) else (bif Nat.beq k 365 then [(0, 6, 7, 34, 1, 3, 1, 3165, 3067), (0, 6, 11, 36, 0, 3, 1, 3166, 3134)] else []))) else (bif Nat.blt k 370 then (bif Nat.beq k 369 then [(0, 4, 5, 36, 0, 1, 1, 3166, 3134)] else []) else (bif Nat.blt k 371 then (bif Nat.beq k 370 then [(0, 5, 6, 45, 2, 2, 1, 3206, 3217), (0, 5, 10, 36, 0, 2, 1, 3166, 3134)] else []) else (bif Nat.beq k 371 then [(0, 4, 5, 36, 0, 1, 1, 3166, 3134)] else [])))))

abbrev mAct : Type := (List Value × List Value × List mE × Nat × Nat × Nat) ⊕ mR
abbrev mF : Type := Nat → List Value → List mE → Option mR
def mfh (pc x : Nat) : List (Nat × Nat × Nat × Nat × Nat × Nat × Nat × Nat × Nat) → Option (Nat × Nat)
  | [] => none
  | (a, b, h, _, E, i, len, _, _) :: t => bif Nat.ble a pc && Nat.blt pc b && Nat.beq E x then some (i, h + len) else mfh pc x t
def mexc (k pc x : Nat) (L : List Value) (W9 : List mE) (c s : Nat) : Option mAct := match mhx k with
  | [] => some (.inr (.inr x, W9, c, s))
  | l => match mfh pc x l with
    | some (i, nx) => bif okp L i && Nat.blt x 3 then some (.inl (L.set i (.retAddr 0), [], W9, nx, c, s)) else none
    | none => none
def mrecv (RO W9 : List mE) (mode : Nat) (as : List Value) (r9 : List Nat) : Bool :=
  bif Nat.beq mode 1 || Nat.beq mode 3 || Nat.beq mode 5 then true
  else match as with
    | .ref q :: _ => bif Nat.beq mode 2 || Nat.beq mode 4 then true else (match mget RO W9 q, r9 with
      | some (.inr (cj, _)), [_, ci] => Nat.beq mode 0 && Nat.beq cj ci
      | some (.inr (cj, _)), [_, _, ci] => Nat.beq cj ci
      | some (.inr (cj, _)), [_, _, _, _, ci] => Nat.beq cj ci
      | _, _ => false)
    | _ => false
def mcal (RO : List mE) (call : mF) (k pc nx mode k9 : Nat) (r9 : List Nat) (as r L : List Value) (W9 : List mE) (c s : Nat) : Option mAct :=
  bif mcs r && mrecv RO W9 mode as r9 then (match call k9 as W9 with
    | none => none
    | some (.inl v, W', mc, ms) => some (.inl (L, v.toList ++ r, W', nx, c + mc, s + ms))
    | some (.inr x, W', mc, ms) => mexc k pc x L W' (c + mc) (s + ms)) else none
def mna (mode na : Nat) : Nat := bif Nat.beq mode 1 || Nat.beq mode 3 || Nat.beq mode 5 then na else na + 1
def mnar (t : Option FieldType) (x : Int32) : Bool := match t with
  | some .int => true
  | some t => decide (narrow t (.int x) = .int x)
  | none => false
def mretv (k op : Nat) (st : List Value) : Option (Option Value) :=
  bif Nat.beq op 0 then (match st with
    | [] => some none
    | _ => none)
  else bif Nat.beq op 1 then (match st with
    | [.int x] => bif mnar (mret k) x then some (some (.int x)) else none
    | _ => none)
  else bif Nat.beq op 2 then (match st with
    | [.ref q] => some (some (.ref q))
    | [.null] => some (some .null)
    | _ => none)
  else bif Nat.beq op 3 then (match st with
    | [.double d] => some (some (.double d))
    | _ => none)
  else bif Nat.beq op 4 then (match st with
    | [.float d] => some (some (.float d))
    | _ => none)
  else bif Nat.beq op 5 then (match st with
    | [.long d] => some (some (.long d))
    | _ => none)
  else none
def marr (op n : Nat) : mE :=
  bif Nat.beq op 4 then .inl (4, n, .inr (.inl (fun _ => 0)))
  else bif Nat.beq op 5 then .inl (5, n, .inr (.inr (.inr (.inl (fun _ => 0)))))
  else bif Nat.beq op 3 then .inl (3, n, .inr (.inr (.inr (.inr (fun _ => none)))))
  else .inl (op, n, .inl (fun _ => 0))
def mnew (op nx : Nat) (st L : List Value) (W9 : List mE) (c s : Nat) : Option mAct := match st with
  | .int n :: r => bif !decide (n < 0) && Nat.ble (n.toNatClampNeg * 8) 536870912 && Nat.blt W9.length 1000000 then some (.inl (L, .ref W9.length :: r, W9 ++ [marr op n.toNatClampNeg], nx, c + 1, s + n.toNatClampNeg)) else none
  | _ => none
/-- a row of bytes anew, with what stands in it -/
def mcln (nx : Nat) (st L : List Value) (W9 : List mE) (c s : Nat) : Option mAct := match st with
  | .ref q :: r => bif Nat.blt q 1000000 && mcs r && Nat.blt W9.length 1000000 then (match W9[q]? with
    | some (.inl (0, n, .inl f)) => bif (List.range n).all (fun i => fits .byte (.int (f i))) then some (.inl (L, .ref W9.length :: r, W9 ++ [.inl (0, n, .inl f)], nx, c + 1, s + n)) else none
    | _ => none) else none
  | _ => none
def mstep (RO : List mE) (call : mF) (k pc : Nat) (I : mI) (L st : List Value) (W9 : List mE) (c s : Nat) : Option mAct := match I with
  | (g, op, nx, x, v) =>
    bif Nat.beq g 0 then (match mSt[op]? with
      | none => none
      | some q => match q.2 RO x v L st W9 with
        | none => none
        | some (L', st', W') => some (.inl (L', st', W', nx, c, s)))
    else bif Nat.beq g 1 then (match mCt[op]?, x with
      | some q, [tT, tF] => (match q.2 st with
        | none => none
        | some (b, st') => bif b then some (.inl (L, st', W9, tT, c, s)) else some (.inl (L, st', W9, tF, c, s)))
      | _, _ => none)
    else bif Nat.beq g 2 then (match mGt[op]? with
      | none => none
      | some q => match q.2 RO x L st W9 with
        | none => none
        | some (b, L', st', W') => bif b then some (.inl (L', st', W', nx, c, s)) else none)
    else bif Nat.beq g 3 then (match x with
      | [t] => some (.inl (L, st, W9, t, c, s))
      | _ => none)
    else bif Nat.beq g 4 then (match st, x with
      | .int i :: r, df :: _ => some (.inl (L, r, W9, mswt i (msw k pc) df, c, s))
      | _, _ => none)
    else bif Nat.beq g 5 then (match x with
      | [ci, _, _, _] => bif Nat.blt W9.length 1000000 then some (.inl (L, .ref W9.length :: st, W9 ++ [.inr (ci, mdef ci)], nx, c + 1, s + (mdef ci).length)) else none
      | _ => none)
    else bif Nat.beq g 6 then mnew op nx st L W9 c s
    else bif Nat.beq g 7 then (match x with
      | mode :: k9 :: na :: _ :: _ :: _ :: _ :: _ :: r9 => bif Nat.ble (mna mode na) st.length then mcal RO call k pc nx mode k9 r9 (st.take (mna mode na)).reverse (st.drop (mna mode na)) L W9 c s else none
      | _ => none)
    else bif Nat.beq g 8 then (match mretv k op st with
      | none => none
      | some v => some (.inr (.inl v, W9, c, s)))
    else bif Nat.beq g 9 then (match x with
      | E :: _ => bif mcs st then some (.inr (.inr E, W9, c + 1, s + 6)) else none
      | _ => none)
    else bif Nat.beq g 10 then mnew 3 nx st L W9 c s
    else bif Nat.beq g 11 then (match mZt[op]? with
      | none => none
      | some q => match q.2 RO x v L st W9 with
        | none => none
        | some (L', st', W') => some (.inl (L', st', W', nx, c, s)))
    else bif Nat.beq g 12 then mcln nx st L W9 c s
    else none
def mgo (RO : List mE) (call : mF) (k : Nat) : Nat → List Value → List Value → List mE → Nat → Nat → Nat → Option mR
  | 0, _, _, _, _, _, _ => none
  | f + 1, L, st, W9, pc, c, s => match cd k pc with
    | none => none
    | some I => match mstep RO call k pc I L st W9 c s with
      | none => none
      | some (.inr r) => some r
      | some (.inl (L', st', W', pc', c', s')) => mgo RO call k f L' st' W' pc' c' s'
def mcat1 (as : List Value) : Bool := as.all (fun v => Nat.beq v.category 1)
def mloc (k : Nat) (as : List Value) : List Value := as ++ List.replicate (mml k - as.length) (.retAddr 0)
def mlib (as : List Value) (W9 : List mE) : Option mR := match as with
  | [.int i, .int n] => bif !decide (i < 0) && decide (i < n) then some (.inl none, W9, 0, 0) else none
  | _ => none
/-- f steps in each method at most, calls d deep at most; the method 287 (String.checkIndex) is taken whole -/
def mrun (RO : List mE) (f : Nat) : Nat → mF
  | 0 => fun _ _ _ => none
  | d + 1 => fun k as W9 => bif Nat.beq k 287 then mlib as W9 else bif Nat.blt k 375 && mcat1 as && Nat.ble as.length (mml k) then mgo RO (mrun RO f d) k f (mloc k as) [] W9 0 0 0 else none

