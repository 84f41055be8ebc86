/-! one train becomes another -/
def cpyF (f g : Nat → Int32) (n : Nat) : Nat → Int32 := va_cpy f g 0 0 n
theorem cpyF_at {f g : Nat → Int32} {n j : Nat} (h : j < n) : cpyF f g n j = f j := sb_cpy0 h
def becM (M : mM) (x y : Nat) : mM := (upM (upM (upM (upM (upM (upM (upM (upM (upM (upM M (x + 2) (cpyF (M (y + 2)) (M (x + 2)) 128)) (x + 1) (upd (M (x + 1)) 2 (M (y + 1) 2))) (x + 4) (cpyF (M (y + 4)) (M (x + 4)) 54)) (x + 3) (upd (M (x + 3)) 2 (M (y + 3) 2))) (x + 6) (cpyF (M (y + 6)) (M (x + 6)) 16)) (x + 5) (upd (M (x + 5)) 2 (M (y + 5) 2))) (x + 7) (cpyF (M (y + 7)) (M (x + 7)) 3)) (x + 8) (cpyF (M (y + 8)) (M (x + 8)) 7)) (x) (upd (M x) 5 (M y 5))) (x) (upd (upd (M x) 5 (M y 5)) 6 (M y 6)))
theorem becM_far {M : mM} {x y q : Nat} (h : q < x ∨ x + 8 < q) : becM M x y q = M q := by
  unfold becM
  rw [upM_ne (by omega), upM_ne (by omega), upM_ne (by omega), upM_ne (by omega), upM_ne (by omega), upM_ne (by omega), upM_ne (by omega), upM_ne (by omega), upM_ne (by omega), upM_ne (by omega)]
theorem becM_2 {M : mM} {x y : Nat} : becM M x y (x + 2) = cpyF (M (y + 2)) (M (x + 2)) 128 := by
  unfold becM
  rw [upM_ne (by omega), upM_ne (by omega), upM_ne (by omega), upM_ne (by omega), upM_ne (by omega), upM_ne (by omega), upM_ne (by omega), upM_ne (by omega), upM_ne (by omega), upM_at]
theorem becM_1 {M : mM} {x y : Nat} : becM M x y (x + 1) = upd (M (x + 1)) 2 (M (y + 1) 2) := by
  unfold becM
  rw [upM_ne (by omega), upM_ne (by omega), upM_ne (by omega), upM_ne (by omega), upM_ne (by omega), upM_ne (by omega), upM_ne (by omega), upM_ne (by omega), upM_at]
theorem becM_4 {M : mM} {x y : Nat} : becM M x y (x + 4) = cpyF (M (y + 4)) (M (x + 4)) 54 := by
  unfold becM
  rw [upM_ne (by omega), upM_ne (by omega), upM_ne (by omega), upM_ne (by omega), upM_ne (by omega), upM_ne (by omega), upM_ne (by omega), upM_at]
theorem becM_3 {M : mM} {x y : Nat} : becM M x y (x + 3) = upd (M (x + 3)) 2 (M (y + 3) 2) := by
  unfold becM
  rw [upM_ne (by omega), upM_ne (by omega), upM_ne (by omega), upM_ne (by omega), upM_ne (by omega), upM_ne (by omega), upM_at]
theorem becM_6 {M : mM} {x y : Nat} : becM M x y (x + 6) = cpyF (M (y + 6)) (M (x + 6)) 16 := by
  unfold becM
  rw [upM_ne (by omega), upM_ne (by omega), upM_ne (by omega), upM_ne (by omega), upM_ne (by omega), upM_at]
theorem becM_5 {M : mM} {x y : Nat} : becM M x y (x + 5) = upd (M (x + 5)) 2 (M (y + 5) 2) := by
  unfold becM
  rw [upM_ne (by omega), upM_ne (by omega), upM_ne (by omega), upM_ne (by omega), upM_at]
theorem becM_7 {M : mM} {x y : Nat} : becM M x y (x + 7) = cpyF (M (y + 7)) (M (x + 7)) 3 := by
  unfold becM
  rw [upM_ne (by omega), upM_ne (by omega), upM_ne (by omega), upM_at]
theorem becM_8 {M : mM} {x y : Nat} : becM M x y (x + 8) = cpyF (M (y + 8)) (M (x + 8)) 7 := by
  unfold becM
  rw [upM_ne (by omega), upM_ne (by omega), upM_at]
theorem becM_0 {M : mM} {x y : Nat} : becM M x y (x) = upd (upd (M x) 5 (M y 5)) 6 (M y 6) := by
  unfold becM
  rw [upM_at]
theorem TrN_bec {M : mM} {x y : Nat} {N : Nat → Int32} {m S t : Nat} (hT : TrN M y N m S t) (h1 : M (x + 1) 0 = 8) (h3 : M (x + 3) 0 = 9) (h5 : M (x + 5) 0 = 2) : TrN (becM M x y) x N m S t := by
  obtain ⟨⟨a1, a2, a3, a4, a5, a6⟩, ⟨b1, b2⟩, ⟨c1, c2⟩, ⟨d1, d2⟩, ⟨e1, e2⟩, f1, g1, k1, i1, j1⟩ := hT
  refine ⟨⟨a1, a2, a3, a4, a5, a6⟩, ?_, ?_, ?_, ?_, fun j hj => ?_, fun j hj => ?_, fun i c hi hc => ?_, fun i hi => ?_, fun i c hi hc => ?_⟩
  · rw [becM_0]; exact ⟨by rw [upd_ne (by decide), upd_at]; exact b1, by rw [upd_at]; exact b2⟩
  · rw [becM_1]; exact ⟨by rw [upd_ne (by decide)]; exact h1, by rw [upd_at]; exact c2⟩
  · rw [becM_3]; exact ⟨by rw [upd_ne (by decide)]; exact h3, by rw [upd_at]; exact d2⟩
  · rw [becM_5]; exact ⟨by rw [upd_ne (by decide)]; exact h5, by rw [upd_at]; exact e2⟩
  · rw [becM_7, cpyF_at hj]; exact f1 j hj
  · rw [becM_8, cpyF_at hj]; exact g1 j hj
  · rw [becM_2, cpyF_at (by omega)]; exact k1 i c hi hc
  · obtain ⟨l1, l2, l3, l4⟩ := i1 i hi
    rw [becM_4]
    exact ⟨by rw [cpyF_at (by omega)]; exact l1, by rw [cpyF_at (by omega)]; exact l2, by rw [cpyF_at (by omega)]; exact l3, fun j hj => by rw [cpyF_at (by omega)]; exact l4 j hj⟩
  · rw [becM_6, cpyF_at (by omega)]; exact j1 i c hi hc
def pairs : List (Nat × Nat) := [(12, 3), (40, 12), (22, 12), (31, 12), (12, 22), (12, 31), (51, 12), (60, 12), (69, 12), (78, 12), (87, 12), (96, 12), (105, 12), (114, 12), (123, 12), (132, 12), (12, 51), (12, 60), (12, 69), (12, 78), (12, 87), (12, 96), (12, 105), (12, 114), (12, 123), (12, 132)]
section CLS
variable {RO : List mE} {d sb : Nat} {ext : List sh} {M : mM} {Q : mQ} {m S t : Nat} {N : Nat → Int32}
theorem c_bec_12_3 (w1 : M 13 0 = M 4 0) (w3 : M 15 0 = M 6 0) (w5 : M 17 0 = M 8 0) : EvR RO (d + 2) 40 [.ref 12, .ref 3] (gW sb ext) M none (becM M 12 3) := by
  refine EvP.wp [] 60 rfl ?_
  refine EvP.wp [] 60 rfl ?_
  refine ⟨fun _ => ?_, fun h => absurd rfl h⟩
  refine ⟨fun _ => ?_, fun h => absurd w1.symm h⟩
  refine ⟨by decide, ?_⟩
  refine EvP.wp [] 60 rfl ?_
  refine ⟨fun _ => ?_, fun h => absurd rfl h⟩
  refine ⟨fun _ => ?_, fun h => absurd w3.symm h⟩
  refine ⟨by decide, ?_⟩
  refine EvP.wp [] 60 rfl ?_
  refine ⟨fun _ => ?_, fun h => absurd rfl h⟩
  refine ⟨fun _ => ?_, fun h => absurd w5.symm h⟩
  refine ⟨by decide, ?_⟩
  refine ⟨by decide, ?_⟩
  refine ⟨by decide, ?_⟩
  exact ⟨rfl, rfl, rfl, rfl, rfl⟩
theorem c_bec_40_12 (w1 : M 41 0 = M 13 0) (w3 : M 43 0 = M 15 0) (w5 : M 45 0 = M 17 0) : EvR RO (d + 2) 40 [.ref 40, .ref 12] (gW sb ext) M none (becM M 40 12) := by
  refine EvP.wp [] 60 rfl ?_
  refine EvP.wp [] 60 rfl ?_
  refine ⟨fun _ => ?_, fun h => absurd rfl h⟩
  refine ⟨fun _ => ?_, fun h => absurd w1.symm h⟩
  refine ⟨by decide, ?_⟩
  refine EvP.wp [] 60 rfl ?_
  refine ⟨fun _ => ?_, fun h => absurd rfl h⟩
  refine ⟨fun _ => ?_, fun h => absurd w3.symm h⟩
  refine ⟨by decide, ?_⟩
  refine EvP.wp [] 60 rfl ?_
  refine ⟨fun _ => ?_, fun h => absurd rfl h⟩
  refine ⟨fun _ => ?_, fun h => absurd w5.symm h⟩
  refine ⟨by decide, ?_⟩
  refine ⟨by decide, ?_⟩
  refine ⟨by decide, ?_⟩
  exact ⟨rfl, rfl, rfl, rfl, rfl⟩
theorem c_bec_22_12 (w1 : M 23 0 = M 13 0) (w3 : M 25 0 = M 15 0) (w5 : M 27 0 = M 17 0) : EvR RO (d + 2) 40 [.ref 22, .ref 12] (gW sb ext) M none (becM M 22 12) := by
  refine EvP.wp [] 60 rfl ?_
  refine EvP.wp [] 60 rfl ?_
  refine ⟨fun _ => ?_, fun h => absurd rfl h⟩
  refine ⟨fun _ => ?_, fun h => absurd w1.symm h⟩
  refine ⟨by decide, ?_⟩
  refine EvP.wp [] 60 rfl ?_
  refine ⟨fun _ => ?_, fun h => absurd rfl h⟩
  refine ⟨fun _ => ?_, fun h => absurd w3.symm h⟩
  refine ⟨by decide, ?_⟩
  refine EvP.wp [] 60 rfl ?_
  refine ⟨fun _ => ?_, fun h => absurd rfl h⟩
  refine ⟨fun _ => ?_, fun h => absurd w5.symm h⟩
  refine ⟨by decide, ?_⟩
  refine ⟨by decide, ?_⟩
  refine ⟨by decide, ?_⟩
  exact ⟨rfl, rfl, rfl, rfl, rfl⟩
theorem c_bec_31_12 (w1 : M 32 0 = M 13 0) (w3 : M 34 0 = M 15 0) (w5 : M 36 0 = M 17 0) : EvR RO (d + 2) 40 [.ref 31, .ref 12] (gW sb ext) M none (becM M 31 12) := by
  refine EvP.wp [] 60 rfl ?_
  refine EvP.wp [] 60 rfl ?_
  refine ⟨fun _ => ?_, fun h => absurd rfl h⟩
  refine ⟨fun _ => ?_, fun h => absurd w1.symm h⟩
  refine ⟨by decide, ?_⟩
  refine EvP.wp [] 60 rfl ?_
  refine ⟨fun _ => ?_, fun h => absurd rfl h⟩
  refine ⟨fun _ => ?_, fun h => absurd w3.symm h⟩
  refine ⟨by decide, ?_⟩
  refine EvP.wp [] 60 rfl ?_
  refine ⟨fun _ => ?_, fun h => absurd rfl h⟩
  refine ⟨fun _ => ?_, fun h => absurd w5.symm h⟩
  refine ⟨by decide, ?_⟩
  refine ⟨by decide, ?_⟩
  refine ⟨by decide, ?_⟩
  exact ⟨rfl, rfl, rfl, rfl, rfl⟩
theorem c_bec_12_22 (w1 : M 13 0 = M 23 0) (w3 : M 15 0 = M 25 0) (w5 : M 17 0 = M 27 0) : EvR RO (d + 2) 40 [.ref 12, .ref 22] (gW sb ext) M none (becM M 12 22) := by
  refine EvP.wp [] 60 rfl ?_
  refine EvP.wp [] 60 rfl ?_
  refine ⟨fun _ => ?_, fun h => absurd rfl h⟩
  refine ⟨fun _ => ?_, fun h => absurd w1.symm h⟩
  refine ⟨by decide, ?_⟩
  refine EvP.wp [] 60 rfl ?_
  refine ⟨fun _ => ?_, fun h => absurd rfl h⟩
  refine ⟨fun _ => ?_, fun h => absurd w3.symm h⟩
  refine ⟨by decide, ?_⟩
  refine EvP.wp [] 60 rfl ?_
  refine ⟨fun _ => ?_, fun h => absurd rfl h⟩
  refine ⟨fun _ => ?_, fun h => absurd w5.symm h⟩
  refine ⟨by decide, ?_⟩
  refine ⟨by decide, ?_⟩
  refine ⟨by decide, ?_⟩
  exact ⟨rfl, rfl, rfl, rfl, rfl⟩
theorem c_bec_12_31 (w1 : M 13 0 = M 32 0) (w3 : M 15 0 = M 34 0) (w5 : M 17 0 = M 36 0) : EvR RO (d + 2) 40 [.ref 12, .ref 31] (gW sb ext) M none (becM M 12 31) := by
  refine EvP.wp [] 60 rfl ?_
  refine EvP.wp [] 60 rfl ?_
  refine ⟨fun _ => ?_, fun h => absurd rfl h⟩
  refine ⟨fun _ => ?_, fun h => absurd w1.symm h⟩
  refine ⟨by decide, ?_⟩
  refine EvP.wp [] 60 rfl ?_
  refine ⟨fun _ => ?_, fun h => absurd rfl h⟩
  refine ⟨fun _ => ?_, fun h => absurd w3.symm h⟩
  refine ⟨by decide, ?_⟩
  refine EvP.wp [] 60 rfl ?_
  refine ⟨fun _ => ?_, fun h => absurd rfl h⟩
  refine ⟨fun _ => ?_, fun h => absurd w5.symm h⟩
  refine ⟨by decide, ?_⟩
  refine ⟨by decide, ?_⟩
  refine ⟨by decide, ?_⟩
  exact ⟨rfl, rfl, rfl, rfl, rfl⟩
theorem c_bec_51_12 (w1 : M 52 0 = M 13 0) (w3 : M 54 0 = M 15 0) (w5 : M 56 0 = M 17 0) : EvR RO (d + 2) 40 [.ref 51, .ref 12] (gW sb ext) M none (becM M 51 12) := by
  refine EvP.wp [] 60 rfl ?_
  refine EvP.wp [] 60 rfl ?_
  refine ⟨fun _ => ?_, fun h => absurd rfl h⟩
  refine ⟨fun _ => ?_, fun h => absurd w1.symm h⟩
  refine ⟨by decide, ?_⟩
  refine EvP.wp [] 60 rfl ?_
  refine ⟨fun _ => ?_, fun h => absurd rfl h⟩
  refine ⟨fun _ => ?_, fun h => absurd w3.symm h⟩
  refine ⟨by decide, ?_⟩
  refine EvP.wp [] 60 rfl ?_
  refine ⟨fun _ => ?_, fun h => absurd rfl h⟩
  refine ⟨fun _ => ?_, fun h => absurd w5.symm h⟩
  refine ⟨by decide, ?_⟩
  refine ⟨by decide, ?_⟩
  refine ⟨by decide, ?_⟩
  exact ⟨rfl, rfl, rfl, rfl, rfl⟩
theorem c_bec_60_12 (w1 : M 61 0 = M 13 0) (w3 : M 63 0 = M 15 0) (w5 : M 65 0 = M 17 0) : EvR RO (d + 2) 40 [.ref 60, .ref 12] (gW sb ext) M none (becM M 60 12) := by
  refine EvP.wp [] 60 rfl ?_
  refine EvP.wp [] 60 rfl ?_
  refine ⟨fun _ => ?_, fun h => absurd rfl h⟩
  refine ⟨fun _ => ?_, fun h => absurd w1.symm h⟩
  refine ⟨by decide, ?_⟩
  refine EvP.wp [] 60 rfl ?_
  refine ⟨fun _ => ?_, fun h => absurd rfl h⟩
  refine ⟨fun _ => ?_, fun h => absurd w3.symm h⟩
  refine ⟨by decide, ?_⟩
  refine EvP.wp [] 60 rfl ?_
  refine ⟨fun _ => ?_, fun h => absurd rfl h⟩
  refine ⟨fun _ => ?_, fun h => absurd w5.symm h⟩
  refine ⟨by decide, ?_⟩
  refine ⟨by decide, ?_⟩
  refine ⟨by decide, ?_⟩
  exact ⟨rfl, rfl, rfl, rfl, rfl⟩
theorem c_bec_69_12 (w1 : M 70 0 = M 13 0) (w3 : M 72 0 = M 15 0) (w5 : M 74 0 = M 17 0) : EvR RO (d + 2) 40 [.ref 69, .ref 12] (gW sb ext) M none (becM M 69 12) := by
  refine EvP.wp [] 60 rfl ?_
  refine EvP.wp [] 60 rfl ?_
  refine ⟨fun _ => ?_, fun h => absurd rfl h⟩
  refine ⟨fun _ => ?_, fun h => absurd w1.symm h⟩
  refine ⟨by decide, ?_⟩
  refine EvP.wp [] 60 rfl ?_
  refine ⟨fun _ => ?_, fun h => absurd rfl h⟩
  refine ⟨fun _ => ?_, fun h => absurd w3.symm h⟩
  refine ⟨by decide, ?_⟩
  refine EvP.wp [] 60 rfl ?_
  refine ⟨fun _ => ?_, fun h => absurd rfl h⟩
  refine ⟨fun _ => ?_, fun h => absurd w5.symm h⟩
  refine ⟨by decide, ?_⟩
  refine ⟨by decide, ?_⟩
  refine ⟨by decide, ?_⟩
  exact ⟨rfl, rfl, rfl, rfl, rfl⟩
theorem c_bec_78_12 (w1 : M 79 0 = M 13 0) (w3 : M 81 0 = M 15 0) (w5 : M 83 0 = M 17 0) : EvR RO (d + 2) 40 [.ref 78, .ref 12] (gW sb ext) M none (becM M 78 12) := by
  refine EvP.wp [] 60 rfl ?_
  refine EvP.wp [] 60 rfl ?_
  refine ⟨fun _ => ?_, fun h => absurd rfl h⟩
  refine ⟨fun _ => ?_, fun h => absurd w1.symm h⟩
  refine ⟨by decide, ?_⟩
  refine EvP.wp [] 60 rfl ?_
  refine ⟨fun _ => ?_, fun h => absurd rfl h⟩
  refine ⟨fun _ => ?_, fun h => absurd w3.symm h⟩
  refine ⟨by decide, ?_⟩
  refine EvP.wp [] 60 rfl ?_
  refine ⟨fun _ => ?_, fun h => absurd rfl h⟩
  refine ⟨fun _ => ?_, fun h => absurd w5.symm h⟩
  refine ⟨by decide, ?_⟩
  refine ⟨by decide, ?_⟩
  refine ⟨by decide, ?_⟩
  exact ⟨rfl, rfl, rfl, rfl, rfl⟩
theorem c_bec_87_12 (w1 : M 88 0 = M 13 0) (w3 : M 90 0 = M 15 0) (w5 : M 92 0 = M 17 0) : EvR RO (d + 2) 40 [.ref 87, .ref 12] (gW sb ext) M none (becM M 87 12) := by
  refine EvP.wp [] 60 rfl ?_
  refine EvP.wp [] 60 rfl ?_
  refine ⟨fun _ => ?_, fun h => absurd rfl h⟩
  refine ⟨fun _ => ?_, fun h => absurd w1.symm h⟩
  refine ⟨by decide, ?_⟩
  refine EvP.wp [] 60 rfl ?_
  refine ⟨fun _ => ?_, fun h => absurd rfl h⟩
  refine ⟨fun _ => ?_, fun h => absurd w3.symm h⟩
  refine ⟨by decide, ?_⟩
  refine EvP.wp [] 60 rfl ?_
  refine ⟨fun _ => ?_, fun h => absurd rfl h⟩
  refine ⟨fun _ => ?_, fun h => absurd w5.symm h⟩
  refine ⟨by decide, ?_⟩
  refine ⟨by decide, ?_⟩
  refine ⟨by decide, ?_⟩
  exact ⟨rfl, rfl, rfl, rfl, rfl⟩
theorem c_bec_96_12 (w1 : M 97 0 = M 13 0) (w3 : M 99 0 = M 15 0) (w5 : M 101 0 = M 17 0) : EvR RO (d + 2) 40 [.ref 96, .ref 12] (gW sb ext) M none (becM M 96 12) := by
  refine EvP.wp [] 60 rfl ?_
  refine EvP.wp [] 60 rfl ?_
  refine ⟨fun _ => ?_, fun h => absurd rfl h⟩
  refine ⟨fun _ => ?_, fun h => absurd w1.symm h⟩
  refine ⟨by decide, ?_⟩
  refine EvP.wp [] 60 rfl ?_
  refine ⟨fun _ => ?_, fun h => absurd rfl h⟩
  refine ⟨fun _ => ?_, fun h => absurd w3.symm h⟩
  refine ⟨by decide, ?_⟩
  refine EvP.wp [] 60 rfl ?_
  refine ⟨fun _ => ?_, fun h => absurd rfl h⟩
  refine ⟨fun _ => ?_, fun h => absurd w5.symm h⟩
  refine ⟨by decide, ?_⟩
  refine ⟨by decide, ?_⟩
  refine ⟨by decide, ?_⟩
  exact ⟨rfl, rfl, rfl, rfl, rfl⟩
theorem c_bec_105_12 (w1 : M 106 0 = M 13 0) (w3 : M 108 0 = M 15 0) (w5 : M 110 0 = M 17 0) : EvR RO (d + 2) 40 [.ref 105, .ref 12] (gW sb ext) M none (becM M 105 12) := by
  refine EvP.wp [] 60 rfl ?_
  refine EvP.wp [] 60 rfl ?_
  refine ⟨fun _ => ?_, fun h => absurd rfl h⟩
  refine ⟨fun _ => ?_, fun h => absurd w1.symm h⟩
  refine ⟨by decide, ?_⟩
  refine EvP.wp [] 60 rfl ?_
  refine ⟨fun _ => ?_, fun h => absurd rfl h⟩
  refine ⟨fun _ => ?_, fun h => absurd w3.symm h⟩
  refine ⟨by decide, ?_⟩
  refine EvP.wp [] 60 rfl ?_
  refine ⟨fun _ => ?_, fun h => absurd rfl h⟩
  refine ⟨fun _ => ?_, fun h => absurd w5.symm h⟩
  refine ⟨by decide, ?_⟩
  refine ⟨by decide, ?_⟩
  refine ⟨by decide, ?_⟩
  exact ⟨rfl, rfl, rfl, rfl, rfl⟩
theorem c_bec_114_12 (w1 : M 115 0 = M 13 0) (w3 : M 117 0 = M 15 0) (w5 : M 119 0 = M 17 0) : EvR RO (d + 2) 40 [.ref 114, .ref 12] (gW sb ext) M none (becM M 114 12) := by
  refine EvP.wp [] 60 rfl ?_
  refine EvP.wp [] 60 rfl ?_
  refine ⟨fun _ => ?_, fun h => absurd rfl h⟩
  refine ⟨fun _ => ?_, fun h => absurd w1.symm h⟩
  refine ⟨by decide, ?_⟩
  refine EvP.wp [] 60 rfl ?_
  refine ⟨fun _ => ?_, fun h => absurd rfl h⟩
  refine ⟨fun _ => ?_, fun h => absurd w3.symm h⟩
  refine ⟨by decide, ?_⟩
  refine EvP.wp [] 60 rfl ?_
  refine ⟨fun _ => ?_, fun h => absurd rfl h⟩
  refine ⟨fun _ => ?_, fun h => absurd w5.symm h⟩
  refine ⟨by decide, ?_⟩
  refine ⟨by decide, ?_⟩
  refine ⟨by decide, ?_⟩
  exact ⟨rfl, rfl, rfl, rfl, rfl⟩
theorem c_bec_123_12 (w1 : M 124 0 = M 13 0) (w3 : M 126 0 = M 15 0) (w5 : M 128 0 = M 17 0) : EvR RO (d + 2) 40 [.ref 123, .ref 12] (gW sb ext) M none (becM M 123 12) := by
  refine EvP.wp [] 60 rfl ?_
  refine EvP.wp [] 60 rfl ?_
  refine ⟨fun _ => ?_, fun h => absurd rfl h⟩
  refine ⟨fun _ => ?_, fun h => absurd w1.symm h⟩
  refine ⟨by decide, ?_⟩
  refine EvP.wp [] 60 rfl ?_
  refine ⟨fun _ => ?_, fun h => absurd rfl h⟩
  refine ⟨fun _ => ?_, fun h => absurd w3.symm h⟩
  refine ⟨by decide, ?_⟩
  refine EvP.wp [] 60 rfl ?_
  refine ⟨fun _ => ?_, fun h => absurd rfl h⟩
  refine ⟨fun _ => ?_, fun h => absurd w5.symm h⟩
  refine ⟨by decide, ?_⟩
  refine ⟨by decide, ?_⟩
  refine ⟨by decide, ?_⟩
  exact ⟨rfl, rfl, rfl, rfl, rfl⟩
theorem c_bec_132_12 (w1 : M 133 0 = M 13 0) (w3 : M 135 0 = M 15 0) (w5 : M 137 0 = M 17 0) : EvR RO (d + 2) 40 [.ref 132, .ref 12] (gW sb ext) M none (becM M 132 12) := by
  refine EvP.wp [] 60 rfl ?_
  refine EvP.wp [] 60 rfl ?_
  refine ⟨fun _ => ?_, fun h => absurd rfl h⟩
  refine ⟨fun _ => ?_, fun h => absurd w1.symm h⟩
  refine ⟨by decide, ?_⟩
  refine EvP.wp [] 60 rfl ?_
  refine ⟨fun _ => ?_, fun h => absurd rfl h⟩
  refine ⟨fun _ => ?_, fun h => absurd w3.symm h⟩
  refine ⟨by decide, ?_⟩
  refine EvP.wp [] 60 rfl ?_
  refine ⟨fun _ => ?_, fun h => absurd rfl h⟩
  refine ⟨fun _ => ?_, fun h => absurd w5.symm h⟩
  refine ⟨by decide, ?_⟩
  refine ⟨by decide, ?_⟩
  refine ⟨by decide, ?_⟩
  exact ⟨rfl, rfl, rfl, rfl, rfl⟩
theorem c_bec_12_51 (w1 : M 13 0 = M 52 0) (w3 : M 15 0 = M 54 0) (w5 : M 17 0 = M 56 0) : EvR RO (d + 2) 40 [.ref 12, .ref 51] (gW sb ext) M none (becM M 12 51) := by
  refine EvP.wp [] 60 rfl ?_
  refine EvP.wp [] 60 rfl ?_
  refine ⟨fun _ => ?_, fun h => absurd rfl h⟩
  refine ⟨fun _ => ?_, fun h => absurd w1.symm h⟩
  refine ⟨by decide, ?_⟩
  refine EvP.wp [] 60 rfl ?_
  refine ⟨fun _ => ?_, fun h => absurd rfl h⟩
  refine ⟨fun _ => ?_, fun h => absurd w3.symm h⟩
  refine ⟨by decide, ?_⟩
  refine EvP.wp [] 60 rfl ?_
  refine ⟨fun _ => ?_, fun h => absurd rfl h⟩
  refine ⟨fun _ => ?_, fun h => absurd w5.symm h⟩
  refine ⟨by decide, ?_⟩
  refine ⟨by decide, ?_⟩
  refine ⟨by decide, ?_⟩
  exact ⟨rfl, rfl, rfl, rfl, rfl⟩
theorem c_bec_12_60 (w1 : M 13 0 = M 61 0) (w3 : M 15 0 = M 63 0) (w5 : M 17 0 = M 65 0) : EvR RO (d + 2) 40 [.ref 12, .ref 60] (gW sb ext) M none (becM M 12 60) := by
  refine EvP.wp [] 60 rfl ?_
  refine EvP.wp [] 60 rfl ?_
  refine ⟨fun _ => ?_, fun h => absurd rfl h⟩
  refine ⟨fun _ => ?_, fun h => absurd w1.symm h⟩
  refine ⟨by decide, ?_⟩
  refine EvP.wp [] 60 rfl ?_
  refine ⟨fun _ => ?_, fun h => absurd rfl h⟩
  refine ⟨fun _ => ?_, fun h => absurd w3.symm h⟩
  refine ⟨by decide, ?_⟩
  refine EvP.wp [] 60 rfl ?_
  refine ⟨fun _ => ?_, fun h => absurd rfl h⟩
  refine ⟨fun _ => ?_, fun h => absurd w5.symm h⟩
  refine ⟨by decide, ?_⟩
  refine ⟨by decide, ?_⟩
  refine ⟨by decide, ?_⟩
  exact ⟨rfl, rfl, rfl, rfl, rfl⟩
theorem c_bec_12_69 (w1 : M 13 0 = M 70 0) (w3 : M 15 0 = M 72 0) (w5 : M 17 0 = M 74 0) : EvR RO (d + 2) 40 [.ref 12, .ref 69] (gW sb ext) M none (becM M 12 69) := by
  refine EvP.wp [] 60 rfl ?_
  refine EvP.wp [] 60 rfl ?_
  refine ⟨fun _ => ?_, fun h => absurd rfl h⟩
  refine ⟨fun _ => ?_, fun h => absurd w1.symm h⟩
  refine ⟨by decide, ?_⟩
  refine EvP.wp [] 60 rfl ?_
  refine ⟨fun _ => ?_, fun h => absurd rfl h⟩
  refine ⟨fun _ => ?_, fun h => absurd w3.symm h⟩
  refine ⟨by decide, ?_⟩
  refine EvP.wp [] 60 rfl ?_
  refine ⟨fun _ => ?_, fun h => absurd rfl h⟩
  refine ⟨fun _ => ?_, fun h => absurd w5.symm h⟩
  refine ⟨by decide, ?_⟩
  refine ⟨by decide, ?_⟩
  refine ⟨by decide, ?_⟩
  exact ⟨rfl, rfl, rfl, rfl, rfl⟩
theorem c_bec_12_78 (w1 : M 13 0 = M 79 0) (w3 : M 15 0 = M 81 0) (w5 : M 17 0 = M 83 0) : EvR RO (d + 2) 40 [.ref 12, .ref 78] (gW sb ext) M none (becM M 12 78) := by
  refine EvP.wp [] 60 rfl ?_
  refine EvP.wp [] 60 rfl ?_
  refine ⟨fun _ => ?_, fun h => absurd rfl h⟩
  refine ⟨fun _ => ?_, fun h => absurd w1.symm h⟩
  refine ⟨by decide, ?_⟩
  refine EvP.wp [] 60 rfl ?_
  refine ⟨fun _ => ?_, fun h => absurd rfl h⟩
  refine ⟨fun _ => ?_, fun h => absurd w3.symm h⟩
  refine ⟨by decide, ?_⟩
  refine EvP.wp [] 60 rfl ?_
  refine ⟨fun _ => ?_, fun h => absurd rfl h⟩
  refine ⟨fun _ => ?_, fun h => absurd w5.symm h⟩
  refine ⟨by decide, ?_⟩
  refine ⟨by decide, ?_⟩
  refine ⟨by decide, ?_⟩
  exact ⟨rfl, rfl, rfl, rfl, rfl⟩
theorem c_bec_12_87 (w1 : M 13 0 = M 88 0) (w3 : M 15 0 = M 90 0) (w5 : M 17 0 = M 92 0) : EvR RO (d + 2) 40 [.ref 12, .ref 87] (gW sb ext) M none (becM M 12 87) := by
  refine EvP.wp [] 60 rfl ?_
  refine EvP.wp [] 60 rfl ?_
  refine ⟨fun _ => ?_, fun h => absurd rfl h⟩
  refine ⟨fun _ => ?_, fun h => absurd w1.symm h⟩
  refine ⟨by decide, ?_⟩
  refine EvP.wp [] 60 rfl ?_
  refine ⟨fun _ => ?_, fun h => absurd rfl h⟩
  refine ⟨fun _ => ?_, fun h => absurd w3.symm h⟩
  refine ⟨by decide, ?_⟩
  refine EvP.wp [] 60 rfl ?_
  refine ⟨fun _ => ?_, fun h => absurd rfl h⟩
  refine ⟨fun _ => ?_, fun h => absurd w5.symm h⟩
  refine ⟨by decide, ?_⟩
  refine ⟨by decide, ?_⟩
  refine ⟨by decide, ?_⟩
  exact ⟨rfl, rfl, rfl, rfl, rfl⟩
theorem c_bec_12_96 (w1 : M 13 0 = M 97 0) (w3 : M 15 0 = M 99 0) (w5 : M 17 0 = M 101 0) : EvR RO (d + 2) 40 [.ref 12, .ref 96] (gW sb ext) M none (becM M 12 96) := by
  refine EvP.wp [] 60 rfl ?_
  refine EvP.wp [] 60 rfl ?_
  refine ⟨fun _ => ?_, fun h => absurd rfl h⟩
  refine ⟨fun _ => ?_, fun h => absurd w1.symm h⟩
  refine ⟨by decide, ?_⟩
  refine EvP.wp [] 60 rfl ?_
  refine ⟨fun _ => ?_, fun h => absurd rfl h⟩
  refine ⟨fun _ => ?_, fun h => absurd w3.symm h⟩
  refine ⟨by decide, ?_⟩
  refine EvP.wp [] 60 rfl ?_
  refine ⟨fun _ => ?_, fun h => absurd rfl h⟩
  refine ⟨fun _ => ?_, fun h => absurd w5.symm h⟩
  refine ⟨by decide, ?_⟩
  refine ⟨by decide, ?_⟩
  refine ⟨by decide, ?_⟩
  exact ⟨rfl, rfl, rfl, rfl, rfl⟩
theorem c_bec_12_105 (w1 : M 13 0 = M 106 0) (w3 : M 15 0 = M 108 0) (w5 : M 17 0 = M 110 0) : EvR RO (d + 2) 40 [.ref 12, .ref 105] (gW sb ext) M none (becM M 12 105) := by
  refine EvP.wp [] 60 rfl ?_
  refine EvP.wp [] 60 rfl ?_
  refine ⟨fun _ => ?_, fun h => absurd rfl h⟩
  refine ⟨fun _ => ?_, fun h => absurd w1.symm h⟩
  refine ⟨by decide, ?_⟩
  refine EvP.wp [] 60 rfl ?_
  refine ⟨fun _ => ?_, fun h => absurd rfl h⟩
  refine ⟨fun _ => ?_, fun h => absurd w3.symm h⟩
  refine ⟨by decide, ?_⟩
  refine EvP.wp [] 60 rfl ?_
  refine ⟨fun _ => ?_, fun h => absurd rfl h⟩
  refine ⟨fun _ => ?_, fun h => absurd w5.symm h⟩
  refine ⟨by decide, ?_⟩
  refine ⟨by decide, ?_⟩
  refine ⟨by decide, ?_⟩
  exact ⟨rfl, rfl, rfl, rfl, rfl⟩
theorem c_bec_12_114 (w1 : M 13 0 = M 115 0) (w3 : M 15 0 = M 117 0) (w5 : M 17 0 = M 119 0) : EvR RO (d + 2) 40 [.ref 12, .ref 114] (gW sb ext) M none (becM M 12 114) := by
  refine EvP.wp [] 60 rfl ?_
  refine EvP.wp [] 60 rfl ?_
  refine ⟨fun _ => ?_, fun h => absurd rfl h⟩
  refine ⟨fun _ => ?_, fun h => absurd w1.symm h⟩
  refine ⟨by decide, ?_⟩
  refine EvP.wp [] 60 rfl ?_
  refine ⟨fun _ => ?_, fun h => absurd rfl h⟩
  refine ⟨fun _ => ?_, fun h => absurd w3.symm h⟩
  refine ⟨by decide, ?_⟩
  refine EvP.wp [] 60 rfl ?_
  refine ⟨fun _ => ?_, fun h => absurd rfl h⟩
  refine ⟨fun _ => ?_, fun h => absurd w5.symm h⟩
  refine ⟨by decide, ?_⟩
  refine ⟨by decide, ?_⟩
  refine ⟨by decide, ?_⟩
  exact ⟨rfl, rfl, rfl, rfl, rfl⟩
theorem c_bec_12_123 (w1 : M 13 0 = M 124 0) (w3 : M 15 0 = M 126 0) (w5 : M 17 0 = M 128 0) : EvR RO (d + 2) 40 [.ref 12, .ref 123] (gW sb ext) M none (becM M 12 123) := by
  refine EvP.wp [] 60 rfl ?_
  refine EvP.wp [] 60 rfl ?_
  refine ⟨fun _ => ?_, fun h => absurd rfl h⟩
  refine ⟨fun _ => ?_, fun h => absurd w1.symm h⟩
  refine ⟨by decide, ?_⟩
  refine EvP.wp [] 60 rfl ?_
  refine ⟨fun _ => ?_, fun h => absurd rfl h⟩
  refine ⟨fun _ => ?_, fun h => absurd w3.symm h⟩
  refine ⟨by decide, ?_⟩
  refine EvP.wp [] 60 rfl ?_
  refine ⟨fun _ => ?_, fun h => absurd rfl h⟩
  refine ⟨fun _ => ?_, fun h => absurd w5.symm h⟩
  refine ⟨by decide, ?_⟩
  refine ⟨by decide, ?_⟩
  refine ⟨by decide, ?_⟩
  exact ⟨rfl, rfl, rfl, rfl, rfl⟩
theorem c_bec_12_132 (w1 : M 13 0 = M 133 0) (w3 : M 15 0 = M 135 0) (w5 : M 17 0 = M 137 0) : EvR RO (d + 2) 40 [.ref 12, .ref 132] (gW sb ext) M none (becM M 12 132) := by
  refine EvP.wp [] 60 rfl ?_
  refine EvP.wp [] 60 rfl ?_
  refine ⟨fun _ => ?_, fun h => absurd rfl h⟩
  refine ⟨fun _ => ?_, fun h => absurd w1.symm h⟩
  refine ⟨by decide, ?_⟩
  refine EvP.wp [] 60 rfl ?_
  refine ⟨fun _ => ?_, fun h => absurd rfl h⟩
  refine ⟨fun _ => ?_, fun h => absurd w3.symm h⟩
  refine ⟨by decide, ?_⟩
  refine EvP.wp [] 60 rfl ?_
  refine ⟨fun _ => ?_, fun h => absurd rfl h⟩
  refine ⟨fun _ => ?_, fun h => absurd w5.symm h⟩
  refine ⟨by decide, ?_⟩
  refine ⟨by decide, ?_⟩
  refine ⟨by decide, ?_⟩
  exact ⟨rfl, rfl, rfl, rfl, rfl⟩
theorem c_become {x y : Nat} (hp : (x, y) ∈ pairs) (hT : TrN M y N m S t) (h1 : M (x + 1) 0 = 8) (h3 : M (x + 3) 0 = 9) (h5 : M (x + 5) 0 = 2) : EvR RO (d + 2) 40 [.ref x, .ref y] (gW sb ext) M none (becM M x y) := by
  have w1 := h1.trans hT.2.2.1.1.symm
  have w3 := h3.trans hT.2.2.2.1.1.symm
  have w5 := h5.trans hT.2.2.2.2.1.1.symm
  clear h1 h3 h5 hT
  simp only [pairs, List.mem_cons, Prod.mk.injEq, List.not_mem_nil, or_false] at hp
  rcases hp with ⟨rfl, rfl⟩ | ⟨rfl, rfl⟩ | ⟨rfl, rfl⟩ | ⟨rfl, rfl⟩ | ⟨rfl, rfl⟩ | ⟨rfl, rfl⟩ | ⟨rfl, rfl⟩ | ⟨rfl, rfl⟩ | ⟨rfl, rfl⟩ | ⟨rfl, rfl⟩ | ⟨rfl, rfl⟩ | ⟨rfl, rfl⟩ | ⟨rfl, rfl⟩ | ⟨rfl, rfl⟩ | ⟨rfl, rfl⟩ | ⟨rfl, rfl⟩ | ⟨rfl, rfl⟩ | ⟨rfl, rfl⟩ | ⟨rfl, rfl⟩ | ⟨rfl, rfl⟩ | ⟨rfl, rfl⟩ | ⟨rfl, rfl⟩ | ⟨rfl, rfl⟩ | ⟨rfl, rfl⟩ | ⟨rfl, rfl⟩ | ⟨rfl, rfl⟩
  · exact c_bec_12_3 w1 w3 w5
  · exact c_bec_40_12 w1 w3 w5
  · exact c_bec_22_12 w1 w3 w5
  · exact c_bec_31_12 w1 w3 w5
  · exact c_bec_12_22 w1 w3 w5
  · exact c_bec_12_31 w1 w3 w5
  · exact c_bec_51_12 w1 w3 w5
  · exact c_bec_60_12 w1 w3 w5
  · exact c_bec_69_12 w1 w3 w5
  · exact c_bec_78_12 w1 w3 w5
  · exact c_bec_87_12 w1 w3 w5
  · exact c_bec_96_12 w1 w3 w5
  · exact c_bec_105_12 w1 w3 w5
  · exact c_bec_114_12 w1 w3 w5
  · exact c_bec_123_12 w1 w3 w5
  · exact c_bec_132_12 w1 w3 w5
  · exact c_bec_12_51 w1 w3 w5
  · exact c_bec_12_60 w1 w3 w5
  · exact c_bec_12_69 w1 w3 w5
  · exact c_bec_12_78 w1 w3 w5
  · exact c_bec_12_87 w1 w3 w5
  · exact c_bec_12_96 w1 w3 w5
  · exact c_bec_12_105 w1 w3 w5
  · exact c_bec_12_114 w1 w3 w5
  · exact c_bec_12_123 w1 w3 w5
  · exact c_bec_12_132 w1 w3 w5
end CLS
