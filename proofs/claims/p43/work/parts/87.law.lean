/-! feeding; the law's cases: restored, undone, saved, fed -/
def pw (G : List sh) : Prop := ∃ c9 r9, G = gX c9 r9
theorem pw_W {sb : Nat} {ext : List sh} : pw (gW sb ext) := gW_gX
theorem pw_X {c9 : sh} {r9 : List sh} : pw (gX c9 r9) := ⟨c9, r9, rfl⟩
def wF1 (M : mM) (n : Nat) (x : Int32) : mM := upM (upM M 2 (upd (M 2) n (byB x))) 1 (upd (M 1) 2 (Int32.ofNat (n + 1)))
def wF4 (M : mM) (n : Nat) (x : Int32) : mM := upM (upM M 2 (feed1 (M 2) n x)) 1 (upd (M 1) 2 (Int32.ofNat (n + 4)))
theorem wF1_f {M : mM} {n : Nat} {x : Int32} : wF1 M n x 1 2 = Int32.ofNat (n + 1) := by rw [wF1, upM_at, upd_at]
theorem wF4_f {M : mM} {n : Nat} {x : Int32} : wF4 M n x 1 2 = Int32.ofNat (n + 4) := by rw [wF4, upM_at, upd_at]
theorem wF4_eq {M : mM} {n : Nat} {x : Int32} : wF1 (wF1 (wF1 (wF1 M n (x >>> (24 &&& 31))) (n + 1) (x >>> (16 &&& 31))) (n + 2) (x >>> (8 &&& 31))) (n + 3) x = wF4 M n x := by
  funext q
  by_cases h1 : q = 1
  · subst h1
    simp only [wF1, wF4, upM_at, upd_upd]
  · by_cases h2 : q = 2
    · subst h2
      rw [wF4, upM_ne (by decide), upM_at, feed1]
      simp only [wF1, upM_at, upM_ne (show (2 : Nat) ≠ 1 by decide), upM_ne (show (1 : Nat) ≠ 2 by decide)]
    · simp only [wF1, wF4, upM_ne h1, upM_ne h2]
theorem byB_ok {x : Int32} : ∃ a : Int8, byB x = a.toInt32 := by
  refine ⟨x.toInt8, ?_⟩
  rw [byB, vp_nar]
  show (x.toInt8.toInt32).toInt8.toInt32 = x.toInt8.toInt32
  rw [Int8.toInt8_toInt32]
def bytesOk (O O' : Nat → Int32) (n : Nat) : Prop := ∀ j, j < n → O j = O' j ∧ ∃ a : Int8, O' j = a.toInt32
theorem bytes_1 {O O' : Nat → Int32} {n : Nat} {x : Int32} (h : bytesOk O O' n) : bytesOk (upd O n (byB x)) (upd O' n (byB x)) (n + 1) := fun j hj => by
  by_cases e : j = n
  · subst e
    rw [upd_at, upd_at]
    exact ⟨rfl, byB_ok⟩
  · rw [upd_ne e, upd_ne e]
    exact h j (by omega)
theorem bytes_4 {O O' : Nat → Int32} {n : Nat} {x : Int32} (h : bytesOk O O' n) : bytesOk (feed1 O n x) (feed1 O' n x) (n + 4) := bytes_1 (bytes_1 (bytes_1 (bytes_1 h)))
section CLS
variable {RO : List mE} {d sb : Nat} {ext : List sh} {GG : List sh} {M : mM} {Q : mQ}
theorem c_writeByte {n : Nat} {x : Int32} (hG : pw GG) (hn : n < 700) (hN : M 1 2 = Int32.ofNat n) : EvR RO (d + 1) 28 [.ref 1, .int x] GG M none (wF1 M n x) := by
  obtain ⟨c9, r9, rfl⟩ := hG
  refine EvP.wp [] 60 rfl ?_
  refine nn_if hN (by omega) ?_
  refine lt_if (b := 700) hN rfl (by omega) (by omega) (fun _ => ?_) (fun h => absurd h (by omega))
  refine ⟨n, hN, by omega, ?_⟩
  refine ⟨rfl, rfl, ?_, rfl, rfl⟩
  rw [wF1, ← i_inc, ← hN]; rfl
theorem c_writeFour {n : Nat} {x : Int32} (hG : pw GG) (hn : n + 4 ≤ 700) (hN : M 1 2 = Int32.ofNat n) : EvR RO (d + 2) 29 [.ref 1, .int x] GG M none (wF4 M n x) := by
  have w1 := fun d => c_writeByte (RO := RO) (d := d) (GG := GG) (M := M) (x := x >>> (24 &&& 31)) hG (n := n) (by omega) hN
  have w2 := fun d => c_writeByte (RO := RO) (d := d) (GG := GG) (M := wF1 M n (x >>> (24 &&& 31))) (x := x >>> (16 &&& 31)) hG (n := n + 1) (by omega) wF1_f
  have w3 := fun d => c_writeByte (RO := RO) (d := d) (GG := GG) (M := wF1 (wF1 M n (x >>> (24 &&& 31))) (n + 1) (x >>> (16 &&& 31))) (x := x >>> (8 &&& 31)) hG (n := n + 2) (by omega) wF1_f
  have w4 := fun d => c_writeByte (RO := RO) (d := d) (GG := GG) (M := wF1 (wF1 (wF1 M n (x >>> (24 &&& 31))) (n + 1) (x >>> (16 &&& 31))) (n + 2) (x >>> (8 &&& 31))) (x := x) hG (n := n + 3) (by omega) wF1_f
  rw [← wF4_eq]
  obtain ⟨c9, r9, rfl⟩ := hG
  refine EvP.wp [] 60 rfl ?_
  refine (w1 _).use ?_
  refine (w2 _).use ?_
  refine (w3 _).use ?_
  refine (w4 _).use ?_
  exact ⟨rfl, rfl, rfl, rfl, rfl⟩
def wF20 (M : mM) (n : Nat) (a b c e f : Int32) : mM := wF4 (wF4 (wF4 (wF4 (wF4 M n a) (n + 4) b) (n + 8) c) (n + 12) e) (n + 16) f
theorem q_feed {n : Nat} {a b c e f : Int32} (hn : n ≤ 680) (hN : M 1 2 = Int32.ofNat n) : EvR RO (d + 7) 90 [.ref 0, .int a, .int b, .int c, .int e, .int f] (gW sb ext) M (some (.int (Int32.ofNat (n + 20)))) (wF20 M n a b c e f) := by
  refine EvP.wp [] 60 rfl ?_
  refine gt_if (a := n + 20) (b := 700) (by rw [hN]; exact i_add n 20) rfl (by omega) (by omega) (fun h => absurd h (by omega)) (fun _ => ?_)
  have w1 := fun d => c_writeFour (RO := RO) (d := d) (GG := gW sb ext) (M := M) (x := a) pw_W (n := n) (by omega) hN
  have w2 := fun d => c_writeFour (RO := RO) (d := d) (GG := gW sb ext) (M := wF4 M n a) (x := b) pw_W (n := n + 4) (by omega) wF4_f
  have w3 := fun d => c_writeFour (RO := RO) (d := d) (GG := gW sb ext) (M := wF4 (wF4 M n a) (n + 4) b) (x := c) pw_W (n := n + 8) (by omega) wF4_f
  have w4 := fun d => c_writeFour (RO := RO) (d := d) (GG := gW sb ext) (M := wF4 (wF4 (wF4 M n a) (n + 4) b) (n + 8) c) (x := e) pw_W (n := n + 12) (by omega) wF4_f
  have w5 := fun d => c_writeFour (RO := RO) (d := d) (GG := gW sb ext) (M := wF4 (wF4 (wF4 (wF4 M n a) (n + 4) b) (n + 8) c) (n + 12) e) (x := f) pw_W (n := n + 16) (by omega) wF4_f
  refine (w1 _).use ?_
  refine (w2 _).use ?_
  refine (w3 _).use ?_
  refine (w4 _).use ?_
  refine (w5 _).use ?_
  exact ⟨congrArg (fun z : Int32 => (Sum.inl (some (Value.int z)) : mO)) (wF4_f (M := wF4 (wF4 (wF4 (wF4 M n a) (n + 4) b) (n + 8) c) (n + 12) e) (n := n + 16) (x := f)), rfl, rfl, rfl, rfl⟩
end CLS
def fd20 (O : Nat → Int32) (n : Nat) (a b c e f : Int32) : Nat → Int32 := feed1 (feed1 (feed1 (feed1 (feed1 O n a) (n + 4) b) (n + 8) c) (n + 12) e) (n + 16) f
theorem wF20_2 {M : mM} {n : Nat} {a b c e f : Int32} : wF20 M n a b c e f 2 = fd20 (M 2) n a b c e f := by
  have h : ∀ (M : mM) (n : Nat) (x : Int32), wF4 M n x 2 = feed1 (M 2) n x := fun M n x => by rw [wF4, upM_ne (by decide), upM_at]
  rw [wF20, h, h, h, h, h, fd20]
theorem wF20_1 {M : mM} {n : Nat} {a b c e f : Int32} : wF20 M n a b c e f 1 = upd (M 1) 2 (Int32.ofNat (n + 20)) := by
  have h : ∀ (M : mM) (n : Nat) (x : Int32), wF4 M n x 1 = upd (M 1) 2 (Int32.ofNat (n + 4)) := fun M n x => by rw [wF4, upM_at]
  rw [wF20, h, h, h, h, h, upd_upd, upd_upd, upd_upd, upd_upd]
theorem wF20_q {M : mM} {n q : Nat} {a b c e f : Int32} (h1 : q ≠ 1) (h2 : q ≠ 2) : wF20 M n a b c e f q = M q := by
  have h : ∀ (M : mM) (n : Nat) (x : Int32), wF4 M n x q = M q := fun M n x => by rw [wF4, upM_ne h1, upM_ne h2]
  rw [wF20, h, h, h, h, h]
