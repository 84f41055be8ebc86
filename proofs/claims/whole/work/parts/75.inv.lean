/-! what holds between two calls -/
/-- what is only read: the texts, two rows of digits, the script -/
def strF (l : List Nat) (j : Nat) : Int32 := Int32.ofNat (l.getD j 0)
def RO9 (hs : Nat → Int32) (len : Nat) (f : Nat → Int32) : List mE := [.inr (0, [.ref 1000001, .int 0]), .inl (0, 208, .inl (strF [116, 114, 97, 105, 110, 32, 50, 48, 32, 49, 48, 32, 51, 59, 32, 109, 117, 108, 101, 32, 106, 101, 110, 32, 49, 48, 48, 59, 32, 109, 117, 108, 101, 32, 109, 111, 108, 108, 32, 54, 48, 59, 32, 115, 97, 99, 107, 32, 103, 114, 97, 105, 110, 32, 51, 48, 32, 52, 48, 59, 32, 115, 97, 99, 107, 32, 99, 108, 111, 116, 104, 32, 50, 48, 32, 54, 48, 59, 32, 115, 97, 99, 107, 32, 105, 114, 111, 110, 32, 53, 48, 32, 51, 48, 59, 32, 115, 97, 99, 107, 32, 103, 108, 97, 115, 115, 32, 49, 48, 32, 57, 48, 59, 32, 115, 97, 99, 107, 32, 103, 114, 97, 105, 110, 32, 50, 53, 32, 50, 48, 59, 32, 114, 111, 97, 100, 32, 52, 48, 59, 32, 102, 111, 114, 100, 32, 53, 59, 32, 99, 97, 109, 112, 32, 56, 59, 32, 112, 97, 99, 107, 32, 48, 32, 106, 101, 110, 32, 108, 101, 102, 116, 59, 32, 112, 97, 99, 107, 32, 51, 32, 106, 101, 110, 32, 114, 105, 103, 104, 116, 59, 32, 112, 97, 99, 107, 32, 49, 32, 109, 111, 108, 108, 32, 108, 101, 102, 116])), .inr (0, [.ref 1000003, .int 0]), .inl (0, 5, .inl (strF [116, 114, 97, 105, 110])), .inr (0, [.ref 1000005, .int 0]), .inl (0, 4, .inl (strF [109, 117, 108, 101])), .inr (0, [.ref 1000007, .int 0]), .inl (0, 4, .inl (strF [115, 97, 99, 107])), .inr (0, [.ref 1000009, .int 0]), .inl (0, 5, .inl (strF [103, 114, 97, 105, 110])), .inr (0, [.ref 1000011, .int 0]), .inl (0, 5, .inl (strF [99, 108, 111, 116, 104])), .inr (0, [.ref 1000013, .int 0]), .inl (0, 4, .inl (strF [105, 114, 111, 110])), .inr (0, [.ref 1000015, .int 0]), .inl (0, 5, .inl (strF [103, 108, 97, 115, 115])), .inr (0, [.ref 1000017, .int 0]), .inl (0, 4, .inl (strF [114, 111, 97, 100])), .inr (0, [.ref 1000019, .int 0]), .inl (0, 4, .inl (strF [102, 111, 114, 100])), .inr (0, [.ref 1000021, .int 0]), .inl (0, 4, .inl (strF [99, 97, 109, 112])), .inr (0, [.ref 1000023, .int 0]), .inl (0, 4, .inl (strF [112, 97, 99, 107])), .inr (0, [.ref 1000025, .int 0]), .inl (0, 4, .inl (strF [108, 101, 102, 116])), .inr (0, [.ref 1000027, .int 0]), .inl (0, 5, .inl (strF [114, 105, 103, 104, 116])), .inr (0, [.ref 1000029, .int 0]), .inl (0, 4, .inl (strF [114, 101, 115, 116])), .inr (0, [.ref 1000031, .int 0]), .inl (0, 4, .inl (strF [116, 114, 105, 112])), .inr (0, [.ref 1000033, .int 0]), .inl (0, 27, .inl (strF [83, 116, 114, 105, 110, 103, 32, 105, 110, 100, 101, 120, 32, 111, 117, 116, 32, 111, 102, 32, 114, 97, 110, 103, 101, 58, 32])), .inr (0, [.ref 1000035, .int 0]), .inl (0, 3, .inl (strF [32, 62, 32])), .inr (0, [.ref 1000037, .int 0]), .inl (0, 10, .inl (strF [102, 114, 111, 109, 73, 110, 100, 101, 120, 40])), .inr (0, [.ref 1000039, .int 0]), .inl (0, 12, .inl (strF [41, 32, 62, 32, 116, 111, 73, 110, 100, 101, 120, 40])), .inr (0, [.ref 1000041, .int 0]), .inl (0, 1, .inl (strF [41])), .inr (0, [.ref 1000043, .int 0]), .inl (0, 26, .inl (strF [65, 114, 114, 97, 121, 32, 105, 110, 100, 101, 120, 32, 111, 117, 116, 32, 111, 102, 32, 114, 97, 110, 103, 101, 58, 32])), .inr (0, [.ref 1000045, .int 0]), .inl (0, 4, .inl (strF [114, 111, 97, 100])), .inr (0, [.ref 1000047, .int 0]), .inl (0, 4, .inl (strF [102, 111, 114, 100])), .inr (0, [.ref 1000049, .int 0]), .inl (0, 4, .inl (strF [99, 97, 109, 112])), .inr (0, [.ref 1000051, .int 0]), .inl (0, 24, .inl (strF [116, 104, 101, 32, 105, 110, 112, 117, 116, 32, 98, 117, 102, 102, 101, 114, 32, 105, 115, 32, 102, 117, 108, 108])), .inr (0, [.ref 1000053, .int 0]), .inl (0, 26, .inl (strF [116, 104, 101, 32, 108, 101, 110, 103, 116, 104, 32, 105, 115, 32, 111, 117, 116, 32, 111, 102, 32, 114, 97, 110, 103, 101])), .inr (0, [.ref 1000055, .int 0]), .inl (0, 21, .inl (strF [116, 104, 101, 32, 116, 101, 120, 116, 32, 104, 97, 115, 32, 97, 110, 32, 101, 114, 114, 111, 114])), .inr (0, [.ref 1000057, .int 0]), .inl (0, 22, .inl (strF [116, 104, 101, 114, 101, 32, 105, 115, 32, 110, 111, 32, 115, 117, 99, 104, 32, 118, 97, 108, 117, 101])), .inr (0, [.ref 1000059, .int 0]), .inl (0, 24, .inl (strF [116, 104, 101, 114, 101, 32, 105, 115, 32, 110, 111, 32, 115, 117, 99, 104, 32, 115, 101, 116, 116, 105, 110, 103])), .inr (0, [.ref 1000061, .int 0]), .inl (0, 22, .inl (strF [116, 104, 101, 114, 101, 32, 105, 115, 32, 110, 111, 32, 115, 117, 99, 104, 32, 99, 111, 117, 110, 116])), .inr (0, [.ref 1000063, .int 0]), .inl (0, 21, .inl (strF [116, 104, 101, 114, 101, 32, 105, 115, 32, 110, 111, 32, 115, 117, 99, 104, 32, 109, 117, 108, 101])), .inr (0, [.ref 1000065, .int 0]), .inl (0, 25, .inl (strF [109, 117, 108, 101, 115, 32, 104, 97, 118, 101, 32, 110, 111, 32, 115, 117, 99, 104, 32, 110, 117, 109, 98, 101, 114])), .inr (0, [.ref 1000067, .int 0]), .inl (0, 21, .inl (strF [116, 104, 101, 114, 101, 32, 105, 115, 32, 110, 111, 32, 115, 117, 99, 104, 32, 115, 97, 99, 107])), .inr (0, [.ref 1000069, .int 0]), .inl (0, 25, .inl (strF [115, 97, 99, 107, 115, 32, 104, 97, 118, 101, 32, 110, 111, 32, 115, 117, 99, 104, 32, 110, 117, 109, 98, 101, 114])), .inr (0, [.ref 1000071, .int 0]), .inl (0, 22, .inl (strF [116, 104, 101, 114, 101, 32, 105, 115, 32, 110, 111, 32, 115, 117, 99, 104, 32, 115, 116, 97, 103, 101])), .inr (0, [.ref 1000073, .int 0]), .inl (0, 26, .inl (strF [115, 116, 97, 103, 101, 115, 32, 104, 97, 118, 101, 32, 110, 111, 32, 115, 117, 99, 104, 32, 110, 117, 109, 98, 101, 114])), .inr (0, [.ref 1000075, .int 0]), .inl (0, 25, .inl (strF [116, 104, 101, 32, 100, 101, 112, 116, 104, 32, 105, 115, 32, 111, 117, 116, 32, 111, 102, 32, 114, 97, 110, 103, 101])), .inr (0, [.ref 1000077, .int 0]), .inl (0, 21, .inl (strF [116, 104, 101, 114, 101, 32, 105, 115, 32, 110, 111, 32, 115, 117, 99, 104, 32, 115, 105, 100, 101])), .inr (0, [.ref 1000079, .int 0]), .inl (0, 38, .inl (strF [116, 104, 101, 32, 115, 97, 99, 107, 32, 99, 97, 110, 110, 111, 116, 32, 98, 101, 32, 112, 97, 99, 107, 101, 100, 32, 111, 110, 32, 116, 104, 105, 115, 32, 109, 117, 108, 101])), .inr (0, [.ref 1000081, .int 0]), .inl (0, 22, .inl (strF [116, 104, 101, 32, 115, 97, 99, 107, 32, 105, 115, 32, 111, 110, 32, 110, 111, 32, 109, 117, 108, 101])), .inr (0, [.ref 1000083, .int 0]), .inl (0, 21, .inl (strF [116, 104, 101, 32, 116, 114, 105, 112, 32, 99, 97, 110, 110, 111, 116, 32, 98, 101, 103, 105, 110])), .inr (0, [.ref 1000085, .int 0]), .inl (0, 25, .inl (strF [116, 104, 101, 32, 100, 97, 121, 115, 32, 97, 114, 101, 32, 111, 117, 116, 32, 111, 102, 32, 114, 97, 110, 103, 101])), .inr (0, [.ref 1000087, .int 0]), .inl (0, 26, .inl (strF [116, 104, 101, 114, 101, 32, 97, 114, 101, 32, 110, 111, 116, 32, 115, 111, 32, 109, 97, 110, 121, 32, 100, 97, 121, 115])), .inr (0, [.ref 1000089, .int 0]), .inl (0, 25, .inl (strF [116, 104, 101, 114, 101, 32, 99, 97, 110, 32, 98, 101, 32, 110, 111, 32, 115, 117, 99, 104, 32, 115, 97, 99, 107])), .inr (0, [.ref 1000091, .int 0]), .inl (0, 24, .inl (strF [116, 104, 101, 114, 101, 32, 97, 114, 101, 32, 116, 111, 111, 32, 109, 97, 110, 121, 32, 115, 97, 99, 107, 115])), .inr (0, [.ref 1000093, .int 0]), .inl (0, 26, .inl (strF [116, 104, 101, 114, 101, 32, 99, 97, 110, 32, 98, 101, 32, 110, 111, 32, 115, 117, 99, 104, 32, 115, 116, 97, 103, 101])), .inr (0, [.ref 1000095, .int 0]), .inl (0, 25, .inl (strF [116, 104, 101, 114, 101, 32, 97, 114, 101, 32, 116, 111, 111, 32, 109, 97, 110, 121, 32, 115, 116, 97, 103, 101, 115])), .inr (0, [.ref 1000097, .int 0]), .inl (0, 25, .inl (strF [116, 104, 101, 32, 118, 97, 108, 117, 101, 32, 105, 115, 32, 111, 117, 116, 32, 111, 102, 32, 114, 97, 110, 103, 101])), .inr (0, [.ref 1000099, .int 0]), .inl (0, 21, .inl (strF [116, 104, 101, 114, 101, 32, 105, 115, 32, 110, 111, 32, 115, 117, 99, 104, 32, 115, 108, 111, 116])), .inr (0, [.ref 1000101, .int 0]), .inl (0, 29, .inl (strF [110, 111, 116, 104, 105, 110, 103, 32, 105, 115, 32, 115, 97, 118, 101, 100, 32, 105, 110, 32, 116, 104, 105, 115, 32, 115, 108, 111, 116])), .inr (0, [.ref 1000103, .int 0]), .inl (0, 23, .inl (strF [110, 111, 32, 99, 104, 97, 110, 103, 101, 32, 99, 97, 110, 32, 98, 101, 32, 117, 110, 100, 111, 110, 101])), .inr (0, [.ref 1000105, .int 0]), .inl (0, 27, .inl (strF [116, 104, 101, 32, 111, 117, 116, 112, 117, 116, 32, 104, 97, 115, 32, 110, 111, 32, 115, 117, 99, 104, 32, 98, 121, 116, 101])), .inl (0, 100, .inl (strF [48, 49, 50, 51, 52, 53, 54, 55, 56, 57, 48, 49, 50, 51, 52, 53, 54, 55, 56, 57, 48, 49, 50, 51, 52, 53, 54, 55, 56, 57, 48, 49, 50, 51, 52, 53, 54, 55, 56, 57, 48, 49, 50, 51, 52, 53, 54, 55, 56, 57, 48, 49, 50, 51, 52, 53, 54, 55, 56, 57, 48, 49, 50, 51, 52, 53, 54, 55, 56, 57, 48, 49, 50, 51, 52, 53, 54, 55, 56, 57, 48, 49, 50, 51, 52, 53, 54, 55, 56, 57, 48, 49, 50, 51, 52, 53, 54, 55, 56, 57])), .inl (0, 100, .inl (strF [48, 48, 48, 48, 48, 48, 48, 48, 48, 48, 49, 49, 49, 49, 49, 49, 49, 49, 49, 49, 50, 50, 50, 50, 50, 50, 50, 50, 50, 50, 51, 51, 51, 51, 51, 51, 51, 51, 51, 51, 52, 52, 52, 52, 52, 52, 52, 52, 52, 52, 53, 53, 53, 53, 53, 53, 53, 53, 53, 53, 54, 54, 54, 54, 54, 54, 54, 54, 54, 54, 55, 55, 55, 55, 55, 55, 55, 55, 55, 55, 56, 56, 56, 56, 56, 56, 56, 56, 56, 56, 57, 57, 57, 57, 57, 57, 57, 57, 57, 57])), .inl (1, len, .inl f)]
def lettersOk (N : Nat → Int32) (i : Nat) : Prop := ∃ L, 1 ≤ L ∧ L ≤ 6 ∧ (∀ n, n < L → ∃ a, 97 ≤ a ∧ a ≤ 122 ∧ N (15 + 8 * i + 2 + n) = Int32.ofNat a) ∧ ∀ n, L ≤ n → n < 6 → N (15 + 8 * i + 2 + n) = 0
def rOk (N : Nat → Int32) (m S t : Nat) : Prop := invN N m S t ∧ placesOk N S ∧ loadsOk N m S ∧ (∃ D, N 6 = Int32.ofNat D ∧ D ≤ 9999) ∧ ∀ i, i < m → lettersOk N i
def rowAt (O : Nat → Int32) (i : Nat) : Nat → Int32 := fun j => O (i * 207 + j)
def I_now (M : mM) : Prop := ∃ m S t, TrN M 12 (M 149) m S t ∧ rOk (M 149) m S t
def I_wid (M : mM) : Prop := widOk M 3 ∧ widOk M 40
def kept (M : mM) (b : Nat) (N : Nat → Int32) : Prop := ∃ m S t, TrN M b N m S t ∧ rOk N m S t
def hisAt (nx c i : Nat) : Nat := 51 + 9 * ((nx + 10 - c + i) % 10)
def I_his (M : mM) (nx c : Nat) : Prop := nx < 10 ∧ c ≤ 10 ∧ M 49 1 = Int32.ofNat nx ∧ M 49 2 = Int32.ofNat c ∧ M 145 7 = Int32.ofNat c ∧ (∀ i, i < 10 → widOk M (51 + 9 * i)) ∧ ∀ i, i < c → kept M (hisAt nx c i) (rowAt (M 151) i)
def I_sav (M : mM) (z : Nat) : Prop := z < 4 ∧ M 145 9 = Int32.ofNat z ∧ widOk M 22 ∧ widOk M 31 ∧ ∀ k, k < 2 → M 141 k = zb (z.testBit k) ∧ (z.testBit k = true → kept M (22 + 9 * k) (rowAt (M 152) k))
def I_inp (M : mM) (n : Nat) : Prop := n ≤ 700 ∧ M 1 2 = Int32.ofNat n ∧ M 145 13 = Int32.ofNat n ∧ ∀ j, j < n → M 2 j = M 155 j ∧ ∃ a : Int8, M 155 j = a.toInt32
def I_err (M : mM) : Prop := M 1 9 = M 145 16 ∧ M 1 10 = M 145 17
def capOf (g : Nat) : Nat := match g with
  | 0 => 16
  | 1 => 34
  | 2 => 70
  | _ => 142
def sbOf (g : Nat) : Nat := match g with
  | 0 => 143
  | 1 => 159
  | 2 => 160
  | _ => 161
def extOf (g : Nat) : List sh := match g with
  | 0 => []
  | 1 => [.inl (0, 34)]
  | 2 => [.inl (0, 34), .inl (0, 70)]
  | _ => [.inl (0, 34), .inl (0, 70), .inl (0, 142)]
def I_out (sb : Nat) (ext : List sh) (M : mM) (p : Nat) : Prop := p ≤ 120 ∧ p ≤ capOf ext.length ∧ ext.length ≤ 3 ∧ (sb = sbOf ext.length ∧ ext = extOf ext.length) ∧ (sb = 143 ∨ 159 ≤ sb) ∧ sb < 162 ∧ M 145 15 = Int32.ofNat p ∧ M 142 1 = 0 ∧ M 142 3 = Int32.ofNat p ∧ (∀ j, j < p → M sb j = M 156 j ∧ ∃ a, a < 128 ∧ M 156 j = Int32.ofNat a) ∧ ∀ j, j < capOf ext.length → fits .byte (.int (M sb j)) = true
def keyL : List Int32 := [116, 114, 97, 105, 110, 109, 117, 108, 101, 0, 115, 97, 99, 107, 0, 114, 111, 97, 100, 0, 102, 111, 114, 100, 0, 99, 97, 109, 112, 0, 112, 97, 99, 107, 0, 116, 114, 105, 112, 0, 114, 101, 115, 116, 0, 103, 114, 97, 105, 110, 99, 108, 111, 116, 104, 105, 114, 111, 110, 0, 103, 108, 97, 115, 115, 108, 101, 102, 116, 0, 114, 105, 103, 104, 116, 106, 101, 110, 0, 0, 109, 111, 108, 108, 0]
def keyF (j : Nat) : Int32 := keyL.getD j 0
def I_key (M : mM) : Prop := (∀ j, j < 85 → M 148 j = keyF j) ∧ (M 146 0 = 99 ∧ M 146 1 = 50 ∧ M 146 2 = 50) ∧ M 147 0 = 99 ∧ M 147 1 = 9 ∧ M 147 2 = 24
def Inv (sb : Nat) (ext : List sh) (M : mM) : Prop := I_now M ∧ I_wid M ∧ (∃ nx c, I_his M nx c) ∧ (∃ z, I_sav M z) ∧ (∃ n, I_inp M n) ∧ I_err M ∧ (∃ p, I_out sb ext M p) ∧ I_key M
theorem TrN_fr {M M' : mM} {b : Nat} {N : Nat → Int32} {m S t : Nat} (hT : TrN M b N m S t) (h : ∀ q, b ≤ q → q ≤ b + 8 → M' q = M q) : TrN M' b N m S t := by
  obtain ⟨a1, b1, c1, d1, e1, f1, g1, h1, i1, j1⟩ := hT
  refine ⟨a1, ?_, ?_, ?_, ?_, ?_, ?_, ?_, ?_, ?_⟩
  · rw [h b (by omega) (by omega)]; exact b1
  · rw [h (b + 1) (by omega) (by omega)]; exact c1
  · rw [h (b + 3) (by omega) (by omega)]; exact d1
  · rw [h (b + 5) (by omega) (by omega)]; exact e1
  · rw [h (b + 7) (by omega) (by omega)]; exact f1
  · rw [h (b + 8) (by omega) (by omega)]; exact g1
  · rw [h (b + 2) (by omega) (by omega)]; exact h1
  · rw [h (b + 4) (by omega) (by omega)]; exact i1
  · rw [h (b + 6) (by omega) (by omega)]; exact j1
theorem TrN_wid {M : mM} {b : Nat} {N : Nat → Int32} {m S t : Nat} (hT : TrN M b N m S t) : widOk M b := ⟨hT.2.2.1.1, hT.2.2.2.1.1, hT.2.2.2.2.1.1⟩
theorem wid_fr {M M' : mM} {b : Nat} (hw : widOk M b) (h : ∀ q, b ≤ q → q ≤ b + 8 → M' q = M q) : widOk M' b := by
  refine ⟨?_, ?_, ?_⟩
  · rw [h _ (by omega) (by omega)]; exact hw.1
  · rw [h _ (by omega) (by omega)]; exact hw.2.1
  · rw [h _ (by omega) (by omega)]; exact hw.2.2
theorem kept_fr {M M' : mM} {b : Nat} {N : Nat → Int32} (hk : kept M b N) (h : ∀ q, b ≤ q → q ≤ b + 8 → M' q = M q) : kept M' b N := by
  obtain ⟨m, S, t, h1, h2⟩ := hk
  exact ⟨m, S, t, TrN_fr h1 h, h2⟩
theorem hisAt_lt {nx c i : Nat} : 51 ≤ hisAt nx c i ∧ hisAt nx c i ≤ 132 := by
  unfold hisAt
  omega
theorem now_fr {M M' : mM} (h : I_now M) (h1 : ∀ q, 12 ≤ q → q ≤ 20 → M' q = M q) (h2 : M' 149 = M 149) : I_now M' := by
  obtain ⟨m, S, t, a, b⟩ := h
  unfold I_now
  rw [h2]
  exact ⟨m, S, t, TrN_fr a h1, b⟩
theorem his_fr {M M' : mM} {nx c : Nat} (h : I_his M nx c) (h1 : ∀ q, 49 ≤ q → q ≤ 140 → M' q = M q) (h2 : M' 145 7 = M 145 7) (h3 : M' 151 = M 151) : I_his M' nx c := by
  obtain ⟨a1, a2, a3, a4, a5, a6, a7⟩ := h
  refine ⟨a1, a2, by rw [h1 49 (by omega) (by omega)]; exact a3, by rw [h1 49 (by omega) (by omega)]; exact a4, by rw [h2]; exact a5, fun i hi => wid_fr (a6 i hi) (fun q x y => h1 q (by omega) (by omega)), fun i hi => ?_⟩
  rw [h3]
  have hh := hisAt_lt (nx := nx) (c := c) (i := i)
  exact kept_fr (a7 i hi) (fun q x y => h1 q (by omega) (by omega))
theorem sav_fr {M M' : mM} {z : Nat} (h : I_sav M z) (h1 : ∀ q, 22 ≤ q → q ≤ 39 → M' q = M q) (h2 : M' 145 9 = M 145 9) (h3 : M' 152 = M 152) (h4 : M' 141 = M 141) : I_sav M' z := by
  obtain ⟨a1, a2, a3, a4, a5⟩ := h
  refine ⟨a1, by rw [h2]; exact a2, wid_fr a3 (fun q x y => h1 q (by omega) (by omega)), wid_fr a4 (fun q x y => h1 q (by omega) (by omega)), fun k hk => ⟨by rw [h4]; exact (a5 k hk).1, fun hz => ?_⟩⟩
  rw [h3]
  exact kept_fr ((a5 k hk).2 hz) (fun q x y => h1 q (by omega) (by omega))
theorem inp_fr {M M' : mM} {n : Nat} (h : I_inp M n) (h1 : M' 1 2 = M 1 2) (h2 : M' 2 = M 2) (h3 : M' 145 13 = M 145 13) (h4 : M' 155 = M 155) : I_inp M' n := by
  obtain ⟨a1, a2, a3, a4⟩ := h
  exact ⟨a1, by rw [h1]; exact a2, by rw [h3]; exact a3, fun j hj => by rw [h2, h4]; exact a4 j hj⟩
theorem err_fr {M M' : mM} (h : I_err M) (h1 : M' 1 = M 1) (h2 : M' 145 16 = M 145 16) (h3 : M' 145 17 = M 145 17) : I_err M' := by
  unfold I_err
  rw [h1, h2, h3]
  exact h
theorem out_fr {sb : Nat} {ext : List sh} {M M' : mM} {p : Nat} (h : I_out sb ext M p) (h1 : M' 145 15 = M 145 15) (h2 : M' 142 = M 142) (h3 : ∀ j : Nat, True → M' sb j = M sb j) (h4 : M' 156 = M 156) : I_out sb ext M' p := by
  obtain ⟨a1, a2, a3, a4, a5, a6, a7, a8, a9, a10, a11⟩ := h
  exact ⟨a1, a2, a3, a4, a5, a6, by rw [h1]; exact a7, by rw [h2]; exact a8, by rw [h2]; exact a9, fun j hj => by rw [h3 j trivial, h4]; exact a10 j hj, fun j hj => by rw [h3 j trivial]; exact a11 j hj⟩
theorem key_fr {M M' : mM} (h : I_key M) (h1 : M' 146 = M 146) (h2 : M' 147 = M 147) (h3 : M' 148 = M 148) : I_key M' := by
  unfold I_key
  rw [h1, h2, h3]
  exact h
/-- what a question of the law changes: the class's part and the reference's -/
def FrL (M M' : mM) : Prop := (∀ q, (q < 40 ∨ 48 < q) → q ≠ 144 → q ≠ 145 → q ≠ 150 → q ≠ 153 → q ≠ 154 → q ≠ 157 → q ≠ 158 → M' q = M q) ∧ (∀ j, j ≠ 3 → M' 145 j = M 145 j) ∧ M' 41 0 = M 41 0 ∧ M' 43 0 = M 43 0 ∧ M' 45 0 = M 45 0
theorem FrL.of {M M1 M2 : mM} (h1 : FrQ M M1) (h2 : FrM M1 M2) : FrL M M2 := by
  refine ⟨fun q a b c d e f g i => ?_, fun j hj => ?_, ?_, ?_, ?_⟩
  · rw [h2.1 q c d e f, h1.1 q a b g i]
  · rw [h2.2 j hj, h1.1 145 (by omega) (by omega) (by omega) (by omega)]
  · rw [h2.1 41 (by omega) (by omega) (by omega) (by omega)]; exact h1.2.1
  · rw [h2.1 43 (by omega) (by omega) (by omega) (by omega)]; exact h1.2.2.1
  · rw [h2.1 45 (by omega) (by omega) (by omega) (by omega)]; exact h1.2.2.2
theorem Inv.fr {sb : Nat} {ext : List sh} {M M' : mM} (h : Inv sb ext M) (hF : FrL M M') : Inv sb ext M' := by
  obtain ⟨a, ⟨b1, b2⟩, ⟨nx, c, hc⟩, ⟨z, hz⟩, ⟨n, hn⟩, he, ⟨p, hp⟩, hk⟩ := h
  have f : ∀ q, (q < 40 ∨ 48 < q) → q ≠ 144 → q ≠ 145 → q ≠ 150 → q ≠ 153 → q ≠ 154 → q ≠ 157 → q ≠ 158 → M' q = M q := hF.1
  refine ⟨now_fr a (fun q x y => f q (by omega) (by omega) (by omega) (by omega) (by omega) (by omega) (by omega) (by omega)) (f 149 (by omega) (by omega) (by omega) (by omega) (by omega) (by omega) (by omega) (by omega)), ⟨wid_fr b1 (fun q x y => f q (by omega) (by omega) (by omega) (by omega) (by omega) (by omega) (by omega) (by omega)), ?_⟩, ⟨nx, c, his_fr hc (fun q x y => f q (by omega) (by omega) (by omega) (by omega) (by omega) (by omega) (by omega) (by omega)) (hF.2.1 7 (by omega)) (f 151 (by omega) (by omega) (by omega) (by omega) (by omega) (by omega) (by omega) (by omega))⟩, ⟨z, sav_fr hz (fun q x y => f q (by omega) (by omega) (by omega) (by omega) (by omega) (by omega) (by omega) (by omega)) (hF.2.1 9 (by omega)) (f 152 (by omega) (by omega) (by omega) (by omega) (by omega) (by omega) (by omega) (by omega)) (f 141 (by omega) (by omega) (by omega) (by omega) (by omega) (by omega) (by omega) (by omega))⟩, ⟨n, inp_fr hn (by rw [f 1 (by omega) (by omega) (by omega) (by omega) (by omega) (by omega) (by omega) (by omega)]) (f 2 (by omega) (by omega) (by omega) (by omega) (by omega) (by omega) (by omega) (by omega)) (hF.2.1 13 (by omega)) (f 155 (by omega) (by omega) (by omega) (by omega) (by omega) (by omega) (by omega) (by omega))⟩, err_fr he (f 1 (by omega) (by omega) (by omega) (by omega) (by omega) (by omega) (by omega) (by omega)) (hF.2.1 16 (by omega)) (hF.2.1 17 (by omega)), ⟨p, out_fr hp (hF.2.1 15 (by omega)) (f 142 (by omega) (by omega) (by omega) (by omega) (by omega) (by omega) (by omega) (by omega)) (fun j _ => ?_) (f 156 (by omega) (by omega) (by omega) (by omega) (by omega) (by omega) (by omega) (by omega))⟩, key_fr hk (f 146 (by omega) (by omega) (by omega) (by omega) (by omega) (by omega) (by omega) (by omega)) (f 147 (by omega) (by omega) (by omega) (by omega) (by omega) (by omega) (by omega) (by omega)) (f 148 (by omega) (by omega) (by omega) (by omega) (by omega) (by omega) (by omega) (by omega))⟩
  · exact ⟨hF.2.2.1.trans b2.1, hF.2.2.2.1.trans b2.2.1, hF.2.2.2.2.trans b2.2.2⟩
  · have hs := hp.2.2.2.2.1
    rw [f sb (by omega) (by omega) (by omega) (by omega) (by omega) (by omega) (by omega) (by omega)]
theorem Inv.parts {sb : Nat} {ext : List sh} {M : mM} (h : Inv sb ext M) : ∃ m S t nx c, TrN M 12 (M 149) m S t ∧ rOk (M 149) m S t ∧ widOk M 40 ∧ I_his M nx c := by
  obtain ⟨⟨m, S, t, a, b⟩, ⟨_, b2⟩, ⟨nx, c, hc⟩, _⟩ := h
  exact ⟨m, S, t, nx, c, a, b, b2, hc⟩
