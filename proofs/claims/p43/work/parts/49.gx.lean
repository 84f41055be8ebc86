/-! a world of which only the parser and its train stand fast: behind the constructor's first steps too -/
def gX (c0 : sh) (r9 : List sh) : List sh := c0 :: .inr (.inl (3, [.ref 2, .ref 3, .int 0, .int 0, .int 0, .int 0, .int 0, .int 0, .int 0, .int 0, .int 0])) :: .inl (0, 700) :: .inr (.inl (5, [.ref 4, .ref 6, .ref 8, .ref 10, .ref 11, .int 0, .int 0])) :: .inr (.inl (4, [.int 0, .ref 5, .int 0])) :: .inl (1, 128) :: .inr (.inl (4, [.int 0, .ref 7, .int 0])) :: .inl (1, 54) :: .inr (.inl (4, [.int 0, .ref 9, .int 0])) :: .inl (1, 16) :: .inl (1, 3) :: .inl (1, 7) :: r9
def bas (G : List sh) (b : Nat) : Prop := (b = 12 ∧ ∃ sb ext, G = gW sb ext) ∨ (b = 40 ∧ ∃ sb ext, G = gW sb ext) ∨ (b = 3 ∧ ∃ c9 r9, G = gX c9 r9)
theorem gW_gX {sb : Nat} {ext : List sh} : ∃ c9 r9, gW sb ext = gX c9 r9 := ⟨.inr (.inl (6, [.ref 12, .ref 40, .ref 49, .ref 21, .ref 141, .ref 1, .ref 142, .ref 144])), (gW sb ext).drop 12, rfl⟩
theorem bas_12 {sb : Nat} {ext : List sh} : bas (gW sb ext) 12 := Or.inl ⟨rfl, sb, ext, rfl⟩
theorem bas_40 {sb : Nat} {ext : List sh} : bas (gW sb ext) 40 := Or.inr (Or.inl ⟨rfl, sb, ext, rfl⟩)
theorem bas_3 {sb : Nat} {ext : List sh} : bas (gW sb ext) 3 := Or.inr (Or.inr ⟨rfl, gW_gX⟩)
theorem bas_X {c9 : sh} {r9 : List sh} : bas (gX c9 r9) 3 := Or.inr (Or.inr ⟨rfl, c9, r9, rfl⟩)
