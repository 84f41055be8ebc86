/-! feeding; the law's cases: restored, undone, saved, fed -/
def pw (G : List sh) : Prop := ∃ c9 r9, G = gX c9 r9
theorem pw_W {sb : Nat} {ext : List sh} : pw (gW sb ext) := gW_gX
theorem pw_X {c9 : sh} {r9 : List sh} : pw (gX c9 r9) := ⟨c9, r9, rfl⟩
def wF1 (M : mM) (n : Nat) (x : Int32) : mM := upM (upM M 2 (upd (M 2) n (byB x))) 1 (upd (M 1) 2 (Int32.ofNat (n + 1)))
def wF4 (M : mM) (n : Nat) (x : Int32) : mM := upM (upM M 2 (feed1 (M 2) n x)) 1 (upd (M 1) 2 (Int32.ofNat (n + 4)))
theorem wF1_f {M : mM} {n : Nat} {x : Int32} : wF1 M n x 1 2 = Int32.ofNat (n + 1) := by rw [wF1, upM_at, upd_at]
theorem wF4_f {M : mM} {n : Nat} {x : Int32} : wF4 M n x 1 2 = Int32.ofNat (n + 4) := by rw [wF4, upM_at, upd_at]
theorem wF4_eq {M : mM} {n : Nat} {x : Int32} : wF1 (wF1 (wF1 (wF1 M n (x >>> (24 &&& 31))) (n + 1) (x >>> (16 &&& 31))) (n + 2) (x >>> (8 &&& 31))) (n + 3) x = wF4 M n x := by
  funext q
  by_cases h1 : q = 1
  · subst h1
    simp only [wF1, wF4, upM_at, upd_upd]
  · by_cases h2 : q = 2
    · subst h2
      rw [wF4, upM_ne (by decide), upM_at, feed1]
      simp only [wF1, upM_at, upM_ne (show (2 : Nat) ≠ 1 by decide), upM_ne (show (1 : Nat) ≠ 2 by decide)]
    · simp only [wF1, wF4, upM_ne h1, upM_ne h2]
theorem byB_ok {x : Int32} : ∃ a : Int8, byB x = a.toInt32 := by
  refine ⟨x.toInt8, ?_⟩
  rw [byB, vp_nar]
  show (x.toInt8.toInt32).toInt8.toInt32 = x.toInt8.toInt32
  rw [Int8.toInt8_toInt32]
def bytesOk (O O' : Nat → Int32) (n : Nat) : Prop := ∀ j, j < n → O j = O' j ∧ ∃ a : Int8, O' j = a.toInt32
theorem bytes_1 {O O' : Nat → Int32} {n : Nat} {x : Int32} (h : bytesOk O O' n) : bytesOk (upd O n (byB x)) (upd O' n (byB x)) (n + 1) := fun j hj => by
  by_cases e : j = n
  · subst e
    rw [upd_at, upd_at]
    exact ⟨rfl, byB_ok⟩
  · rw [upd_ne e, upd_ne e]
    exact h j (by omega)
theorem bytes_4 {O O' : Nat → Int32} {n : Nat} {x : Int32} (h : bytesOk O O' n) : bytesOk (feed1 O n x) (feed1 O' n x) (n + 4) := bytes_1 (bytes_1 (bytes_1 (bytes_1 h)))
section CLS
variable {RO : List mE} {d sb : Nat} {ext : List sh} {GG : List sh} {M : mM} {Q : mQ}
theorem c_writeByte {n : Nat} {x : Int32} (hG : pw GG) (hn : n < 700) (hN : M 1 2 = Int32.ofNat n) : EvR RO (d + 1) 28 [.ref 1, .int x] GG M none (wF1 M n x) := by
  obtain ⟨c9, r9, rfl⟩ := hG
  refine EvP.wp [] 60 rfl ?_
  refine nn_if hN (by omega) ?_
  refine lt_if (b := 700) hN rfl (by omega) (by omega) (fun _ => ?_) (fun h => absurd h (by omega))
  refine ⟨n, hN, by omega, ?_⟩
  refine ⟨rfl, rfl, ?_, rfl, rfl⟩
  rw [wF1, ← i_inc, ← hN]; rfl
theorem c_writeFour {n : Nat} {x : Int32} (hG : pw GG) (hn : n + 4 ≤ 700) (hN : M 1 2 = Int32.ofNat n) : EvR RO (d + 2) 29 [.ref 1, .int x] GG M none (wF4 M n x) := by
  have w1 := fun d => c_writeByte (RO := RO) (d := d) (GG := GG) (M := M) (x := x >>> (24 &&& 31)) hG (n := n) (by omega) hN
  have w2 := fun d => c_writeByte (RO := RO) (d := d) (GG := GG) (M := wF1 M n (x >>> (24 &&& 31))) (x := x >>> (16 &&& 31)) hG (n := n + 1) (by omega) wF1_f
  have w3 := fun d => c_writeByte (RO := RO) (d := d) (GG := GG) (M := wF1 (wF1 M n (x >>> (24 &&& 31))) (n + 1) (x >>> (16 &&& 31))) (x := x >>> (8 &&& 31)) hG (n := n + 2) (by omega) wF1_f
  have w4 := fun d => c_writeByte (RO := RO) (d := d) (GG := GG) (M := wF1 (wF1 (wF1 M n (x >>> (24 &&& 31))) (n + 1) (x >>> (16 &&& 31))) (n + 2) (x >>> (8 &&& 31))) (x := x) hG (n := n + 3) (by omega) wF1_f
  rw [← wF4_eq]
  obtain ⟨c9, r9, rfl⟩ := hG
  refine EvP.wp [] 60 rfl ?_
  refine (w1 _).use ?_
  refine (w2 _).use ?_
  refine (w3 _).use ?_
  refine (w4 _).use ?_
  exact ⟨rfl, rfl, rfl, rfl, rfl⟩
def wF20 (M : mM) (n : Nat) (a b c e f : Int32) : mM := wF4 (wF4 (wF4 (wF4 (wF4 M n a) (n + 4) b) (n + 8) c) (n + 12) e) (n + 16) f
theorem w_feed {n : Nat} {a b c e f : Int32} (hn : n ≤ 700) (hN : M 1 2 = Int32.ofNat n) (h0 : 680 < n → Q (.inl (some (.int 1))) (gW sb ext) M 1 6) (h1 : n ≤ 680 → Q (.inl (some (.int 0))) (gW sb ext) (upM (wF20 M n a b c e f) 157 (upd (M 157) 0 (Int32.ofNat (n + 20)).toInt64.toInt32)) 0 0) : EvP RO (d + 8) 258 [.ref 0, .int a, .int b, .int c, .int e, .int f, .ref 157] (gW sb ext) M Q := by
  refine EvP.wp [] 60 rfl ?_
  refine EvP.wp [] 60 rfl ?_
  refine gt_if (a := n + 20) (b := 700) (by rw [hN]; exact i_add n 20) rfl (by omega) (by omega) (fun h => ?_) (fun h => ?_)
  · exact h0 (by omega)
  · have w1 := fun d => c_writeFour (RO := RO) (d := d) (GG := gW sb ext) (M := M) (x := a) pw_W (n := n) (by omega) hN
    have w2 := fun d => c_writeFour (RO := RO) (d := d) (GG := gW sb ext) (M := wF4 M n a) (x := b) pw_W (n := n + 4) (by omega) wF4_f
    have w3 := fun d => c_writeFour (RO := RO) (d := d) (GG := gW sb ext) (M := wF4 (wF4 M n a) (n + 4) b) (x := c) pw_W (n := n + 8) (by omega) wF4_f
    have w4 := fun d => c_writeFour (RO := RO) (d := d) (GG := gW sb ext) (M := wF4 (wF4 (wF4 M n a) (n + 4) b) (n + 8) c) (x := e) pw_W (n := n + 12) (by omega) wF4_f
    have w5 := fun d => c_writeFour (RO := RO) (d := d) (GG := gW sb ext) (M := wF4 (wF4 (wF4 (wF4 M n a) (n + 4) b) (n + 8) c) (n + 12) e) (x := f) pw_W (n := n + 16) (by omega) wF4_f
    have hq := h1 (by omega)
    refine (w1 _).use ?_
    refine (w2 _).use ?_
    refine (w3 _).use ?_
    refine (w4 _).use ?_
    refine (w5 _).use ?_
    refine ⟨0, rfl, by omega, l_ok, ?_⟩
    exact hq
end CLS
def fd20 (O : Nat → Int32) (n : Nat) (a b c e f : Int32) : Nat → Int32 := feed1 (feed1 (feed1 (feed1 (feed1 O n a) (n + 4) b) (n + 8) c) (n + 12) e) (n + 16) f
theorem wF20_2 {M : mM} {n : Nat} {a b c e f : Int32} : wF20 M n a b c e f 2 = fd20 (M 2) n a b c e f := by
  have h : ∀ (M : mM) (n : Nat) (x : Int32), wF4 M n x 2 = feed1 (M 2) n x := fun M n x => by rw [wF4, upM_ne (by decide), upM_at]
  rw [wF20, h, h, h, h, h, fd20]
theorem wF20_1 {M : mM} {n : Nat} {a b c e f : Int32} : wF20 M n a b c e f 1 = upd (M 1) 2 (Int32.ofNat (n + 20)) := by
  have h : ∀ (M : mM) (n : Nat) (x : Int32), wF4 M n x 1 = upd (M 1) 2 (Int32.ofNat (n + 4)) := fun M n x => by rw [wF4, upM_at]
  rw [wF20, h, h, h, h, h, upd_upd, upd_upd, upd_upd, upd_upd]
theorem wF20_q {M : mM} {n q : Nat} {a b c e f : Int32} (h1 : q ≠ 1) (h2 : q ≠ 2) : wF20 M n a b c e f q = M q := by
  have h : ∀ (M : mM) (n : Nat) (x : Int32), wF4 M n x q = M q := fun M n x => by rw [wF4, upM_ne h1, upM_ne h2]
  rw [wF20, h, h, h, h, h]
def feedM20 (M : mM) (n : Nat) (a b c e f : Int32) : mM := feedM1 (feedM1 (feedM1 (feedM1 (feedM1 M n a) (n + 4) b) (n + 8) c) (n + 12) e) (n + 16) f
theorem fM20_155 {M : mM} {n : Nat} {a b c e f : Int32} : feedM20 M n a b c e f 155 = fd20 (M 155) n a b c e f := by
  have h : ∀ (M : mM) (n : Nat) (x : Int32), feedM1 M n x 155 = feed1 (M 155) n x := fun M n x => by rw [feedM1, upM_ne (by decide), upM_at]
  rw [feedM20, h, h, h, h, h, fd20]
theorem fM20_145 {M : mM} {n : Nat} {a b c e f : Int32} : feedM20 M n a b c e f 145 = upd (M 145) 13 (Int32.ofNat (n + 20)) := by
  have h : ∀ (M : mM) (n : Nat) (x : Int32), feedM1 M n x 145 = upd (M 145) 13 (Int32.ofNat (n + 4)) := fun M n x => by rw [feedM1, upM_at]
  rw [feedM20, h, h, h, h, h, upd_upd, upd_upd, upd_upd, upd_upd]
theorem fM20_q {M : mM} {n q : Nat} {a b c e f : Int32} (h1 : q ≠ 145) (h2 : q ≠ 155) : feedM20 M n a b c e f q = M q := by
  have h : ∀ (M : mM) (n : Nat) (x : Int32), feedM1 M n x q = M q := fun M n x => by rw [feedM1, upM_ne h1, upM_ne h2]
  rw [feedM20, h, h, h, h, h]
/-- a step that changes only some of it: each part by itself -/
theorem inv_feed {sb n : Nat} {ext : List sh} {M : mM} {xa xb xc xe xf : Int32} {g : Nat → Int32} (hI : Inv sb ext M) (hn : I_inp M n) (h680 : n ≤ 680) : Inv sb ext (thr (feedM20 (upM (wF20 M n xa xb xc xe xf) 157 g) n xa xb xc xe xf) 0) := by
  obtain ⟨a1, ⟨b1, b2⟩, ⟨nx, cc, hc⟩, ⟨z, hz⟩, -, he, ⟨p, hp⟩, hk⟩ := hI
  obtain ⟨i1, i2, i3, i4⟩ := hn
  have e : ∀ q, q ≠ 1 → q ≠ 2 → q ≠ 145 → q ≠ 155 → q ≠ 157 → thr (feedM20 (upM (wF20 M n xa xb xc xe xf) 157 g) n xa xb xc xe xf) 0 q = M q := fun q h1 h2 h3 h4 h5 => by
    rw [thr_eq, upM_ne h3, fM20_q h3 h4, upM_ne h5, wF20_q h1 h2]
  have e1 : thr (feedM20 (upM (wF20 M n xa xb xc xe xf) 157 g) n xa xb xc xe xf) 0 1 = upd (M 1) 2 (Int32.ofNat (n + 20)) := by
    rw [thr_eq, upM_ne (by decide), fM20_q (by decide) (by decide), upM_ne (by decide), wF20_1]
  have e2 : thr (feedM20 (upM (wF20 M n xa xb xc xe xf) 157 g) n xa xb xc xe xf) 0 2 = fd20 (M 2) n xa xb xc xe xf := by
    rw [thr_eq, upM_ne (by decide), fM20_q (by decide) (by decide), upM_ne (by decide), wF20_2]
  have e155 : thr (feedM20 (upM (wF20 M n xa xb xc xe xf) 157 g) n xa xb xc xe xf) 0 155 = fd20 (M 155) n xa xb xc xe xf := by
    rw [thr_eq, upM_ne (by decide), fM20_155, upM_ne (by decide), wF20_q (by decide) (by decide)]
  have e145 : ∀ j, j ≠ 3 → j ≠ 13 → thr (feedM20 (upM (wF20 M n xa xb xc xe xf) 157 g) n xa xb xc xe xf) 0 145 j = M 145 j := fun j h3 h13 => by
    rw [thr_eq, upM_at, upd_ne h3, fM20_145, upd_ne h13, upM_ne (by decide), wF20_q (by decide) (by decide)]
  have e13 : thr (feedM20 (upM (wF20 M n xa xb xc xe xf) 157 g) n xa xb xc xe xf) 0 145 13 = Int32.ofNat (n + 20) := by
    rw [thr_eq, upM_at, upd_ne (by decide), fM20_145, upd_at]
  have hs := hp.2.2.2.2.1
  generalize thr (feedM20 (upM (wF20 M n xa xb xc xe xf) 157 g) n xa xb xc xe xf) 0 = M2 at *
  refine ⟨now_fr a1 (fun q x y => e q (by omega) (by omega) (by omega) (by omega) (by omega)) (e 149 (by omega) (by omega) (by omega) (by omega) (by omega)), ⟨wid_fr b1 (fun q x y => e q (by omega) (by omega) (by omega) (by omega) (by omega)), wid_fr b2 (fun q x y => e q (by omega) (by omega) (by omega) (by omega) (by omega))⟩, ⟨nx, cc, his_fr hc (fun q x y => e q (by omega) (by omega) (by omega) (by omega) (by omega)) (e145 7 (by omega) (by omega)) (e 151 (by omega) (by omega) (by omega) (by omega) (by omega))⟩, ⟨z, sav_fr hz (fun q x y => e q (by omega) (by omega) (by omega) (by omega) (by omega)) (e145 9 (by omega) (by omega)) (e 152 (by omega) (by omega) (by omega) (by omega) (by omega)) (e 141 (by omega) (by omega) (by omega) (by omega) (by omega))⟩, ⟨n + 20, by omega, by rw [e1, upd_at], e13, ?_⟩, ?_, ⟨p, out_fr hp (e145 15 (by omega) (by omega)) (e 142 (by omega) (by omega) (by omega) (by omega) (by omega)) (fun j _ => by rw [e sb (by omega) (by omega) (by omega) (by omega) (by omega)]) (e 156 (by omega) (by omega) (by omega) (by omega) (by omega))⟩, key_fr hk (e 146 (by omega) (by omega) (by omega) (by omega) (by omega)) (e 147 (by omega) (by omega) (by omega) (by omega) (by omega)) (e 148 (by omega) (by omega) (by omega) (by omega) (by omega))⟩
  · rw [e2, e155]
    exact bytes_4 (n := n + 16) (bytes_4 (n := n + 12) (bytes_4 (n := n + 8) (bytes_4 (n := n + 4) (bytes_4 (n := n) i4))))
  · unfold I_err
    rw [e1, upd_ne (by decide), upd_ne (by decide), e145 16 (by omega) (by omega), e145 17 (by omega) (by omega)]
    exact he
theorem inv_undo {sb nx c : Nat} {ext : List sh} {M : mM} {g : Nat → Int32} (hI : Inv sb ext M) (hH : I_his M nx c) (h0 : 0 < c) : Inv sb ext (thr (upM (upM (upM (bakM M nx c) 157 g) 145 (upd (M 145) 7 (Int32.ofNat (c - 1)))) 149 (copyF (M 149) 0 (M 151) ((c - 1) * 207) 207)) 0) := by
  obtain ⟨⟨m, S, t, hT, hR⟩, ⟨b1, b2⟩, -, ⟨z, hz⟩, ⟨n, hn⟩, he, ⟨p, hp⟩, hk⟩ := hI
  have hw := TrN_wid hT
  obtain ⟨a1, a2, a3, a4, a5, a6, a7⟩ := hH
  obtain ⟨m', S', t', k1, k2⟩ := a7 (c - 1) (by omega)
  rw [TrN_lat a1 a2 h0] at k1
  have hla : laN nx < 10 := by
    unfold laN
    split <;> omega
  have e : ∀ q, (q < 12 ∨ 20 < q) → q ≠ 49 → q ≠ 145 → q ≠ 149 → q ≠ 157 → thr (upM (upM (upM (bakM M nx c) 157 g) 145 (upd (M 145) 7 (Int32.ofNat (c - 1)))) 149 (copyF (M 149) 0 (M 151) ((c - 1) * 207) 207)) 0 q = M q := fun q h1 h2 h3 h4 h5 => by
    rw [thr_eq, upM_ne h3, upM_ne h4, upM_ne h3, upM_ne h5, bakM, upM_ne h2, becM_far (by omega)]
  have e12 : ∀ q, 12 ≤ q → q ≤ 20 → thr (upM (upM (upM (bakM M nx c) 157 g) 145 (upd (M 145) 7 (Int32.ofNat (c - 1)))) 149 (copyF (M 149) 0 (M 151) ((c - 1) * 207) 207)) 0 q = becM M 12 (51 + 9 * laN nx) q := fun q h1 h2 => by
    rw [thr_eq, upM_ne (by omega), upM_ne (by omega), upM_ne (by omega), upM_ne (by omega), bakM, upM_ne (by omega)]
  have e149 : thr (upM (upM (upM (bakM M nx c) 157 g) 145 (upd (M 145) 7 (Int32.ofNat (c - 1)))) 149 (copyF (M 149) 0 (M 151) ((c - 1) * 207) 207)) 0 149 = copyF (M 149) 0 (M 151) ((c - 1) * 207) 207 := by
    rw [thr_eq, upM_ne (by decide), upM_at]
  have e49 : thr (upM (upM (upM (bakM M nx c) 157 g) 145 (upd (M 145) 7 (Int32.ofNat (c - 1)))) 149 (copyF (M 149) 0 (M 151) ((c - 1) * 207) 207)) 0 49 = upd (upd (M 49) 1 (Int32.ofNat (laN nx))) 2 (Int32.ofNat (c - 1)) := by
    rw [thr_eq, upM_ne (by decide), upM_ne (by decide), upM_ne (by decide), upM_ne (by decide), bakM, upM_at]
  have e145 : ∀ j, j ≠ 3 → j ≠ 7 → thr (upM (upM (upM (bakM M nx c) 157 g) 145 (upd (M 145) 7 (Int32.ofNat (c - 1)))) 149 (copyF (M 149) 0 (M 151) ((c - 1) * 207) 207)) 0 145 j = M 145 j := fun j h3 h7 => by
    rw [thr_eq, upM_at, upd_ne h3, upM_ne (by decide), upM_at, upd_ne h7]
  have e7 : thr (upM (upM (upM (bakM M nx c) 157 g) 145 (upd (M 145) 7 (Int32.ofNat (c - 1)))) 149 (copyF (M 149) 0 (M 151) ((c - 1) * 207) 207)) 0 145 7 = Int32.ofNat (c - 1) := by
    rw [thr_eq, upM_at, upd_ne (by decide), upM_ne (by decide), upM_at, upd_at]
  have hs := hp.2.2.2.2.1
  generalize thr (upM (upM (upM (bakM M nx c) 157 g) 145 (upd (M 145) 7 (Int32.ofNat (c - 1)))) 149 (copyF (M 149) 0 (M 151) ((c - 1) * 207) 207)) 0 = M2 at *
  refine ⟨⟨m', S', t', ?_, ?_⟩, ⟨wid_fr b1 (fun q x y => e q (by omega) (by omega) (by omega) (by omega) (by omega)), wid_fr b2 (fun q x y => e q (by omega) (by omega) (by omega) (by omega) (by omega))⟩, ⟨laN nx, c - 1, hla, by omega, by rw [e49, upd_ne (by decide), upd_at], by rw [e49, upd_at], e7, fun i hi => wid_fr (a6 i hi) (fun q x y => e q (by omega) (by omega) (by omega) (by omega) (by omega)), fun i hi => ?_⟩, ⟨z, sav_fr hz (fun q x y => e q (by omega) (by omega) (by omega) (by omega) (by omega)) (e145 9 (by omega) (by omega)) (e 152 (by omega) (by omega) (by omega) (by omega) (by omega)) (e 141 (by omega) (by omega) (by omega) (by omega) (by omega))⟩, ⟨n, inp_fr hn (by rw [e 1 (by omega) (by omega) (by omega) (by omega) (by omega)]) (e 2 (by omega) (by omega) (by omega) (by omega) (by omega)) (e145 13 (by omega) (by omega)) (e 155 (by omega) (by omega) (by omega) (by omega) (by omega))⟩, err_fr he (e 1 (by omega) (by omega) (by omega) (by omega) (by omega)) (e145 16 (by omega) (by omega)) (e145 17 (by omega) (by omega)), ⟨p, out_fr hp (e145 15 (by omega) (by omega)) (e 142 (by omega) (by omega) (by omega) (by omega) (by omega)) (fun j _ => by rw [e sb (by omega) (by omega) (by omega) (by omega) (by omega)]) (e 156 (by omega) (by omega) (by omega) (by omega) (by omega))⟩, key_fr hk (e 146 (by omega) (by omega) (by omega) (by omega) (by omega)) (e 147 (by omega) (by omega) (by omega) (by omega) (by omega)) (e 148 (by omega) (by omega) (by omega) (by omega) (by omega))⟩
  · rw [e149]
    exact TrN_congr (fun j hj => copyF_row hj) (TrN_fr (TrN_bec (x := 12) k1 hw.1 hw.2.1 hw.2.2) (fun q x y => e12 q (by omega) (by omega)))
  · rw [e149]
    exact rOk_congr (fun j hj => copyF_row hj) k2
  · rw [e 151 (by omega) (by omega) (by omega) (by omega) (by omega), show hisAt (laN nx) (c - 1) i = hisAt nx c i by
      unfold hisAt laN
      split <;> omega]
    have hh := hisAt_lt (nx := nx) (c := c) (i := i)
    exact kept_fr (a7 i (by omega)) (fun q x y => e q (by omega) (by omega) (by omega) (by omega) (by omega))
theorem inv_save {sb z k : Nat} {ext : List sh} {M : mM} {g : Nat → Int32} (hI : Inv sb ext M) (hZ : I_sav M z) (hk2 : k < 2) : Inv sb ext (thr (saveM (upM (savC M k) 157 g) k) 0) := by
  obtain ⟨⟨m, S, t, hT, hR⟩, ⟨b1, b2⟩, ⟨nx, cc, hc⟩, -, ⟨n, hn⟩, he, ⟨p, hp⟩, hk⟩ := hI
  obtain ⟨z1, z2, z3, z4, z5⟩ := hZ
  obtain ⟨y1, y2, y3⟩ := or_bit z z1 k hk2
  have hwk : widOk M (22 + 9 * k) := by
    rcases (show k = 0 ∨ k = 1 by omega) with rfl | rfl
    · exact z3
    · exact z4
  have e : ∀ q, (q < 22 + 9 * k ∨ 30 + 9 * k < q) → q ≠ 141 → q ≠ 145 → q ≠ 152 → q ≠ 157 → thr (saveM (upM (savC M k) 157 g) k) 0 q = M q := fun q h1 h2 h3 h4 h5 => by
    rw [thr_eq, upM_ne h3, saveM, upM_ne h3, upM_ne h4, upM_ne h5, savC, upM_ne h2, becM_far (by omega)]
  have eb : ∀ q, 22 + 9 * k ≤ q → q ≤ 30 + 9 * k → thr (saveM (upM (savC M k) 157 g) k) 0 q = becM M (22 + 9 * k) 12 q := fun q h1 h2 => by
    rw [thr_eq, upM_ne (by omega), saveM, upM_ne (by omega), upM_ne (by omega), upM_ne (by omega), savC, upM_ne (by omega)]
  have e141 : thr (saveM (upM (savC M k) 157 g) k) 0 141 = upd (M 141) k (vp_nar .boolean 1) := by
    rw [thr_eq, upM_ne (by decide), saveM, upM_ne (by decide), upM_ne (by decide), upM_ne (by decide), savC, upM_at]
  have e152 : thr (saveM (upM (savC M k) 157 g) k) 0 152 = copyF (M 152) (k * 207) (M 149) 0 207 := by
    rw [thr_eq, upM_ne (by decide), saveM, upM_ne (by decide), upM_at, upM_ne (by decide), upM_ne (by decide), savC, upM_ne (by decide), upM_ne (by decide), becM_far (by omega), becM_far (by omega)]
  have s145 : (upM (savC M k) 157 g) 145 = M 145 := by
    rw [upM_ne (by decide), savC, upM_ne (by decide), becM_far (by omega)]
  have e145 : ∀ j, j ≠ 3 → j ≠ 9 → thr (saveM (upM (savC M k) 157 g) k) 0 145 j = M 145 j := fun j h3 h9 => by
    rw [thr_eq, upM_at, upd_ne h3, saveM, upM_at, upd_ne h9, s145]
  have e9 : thr (saveM (upM (savC M k) 157 g) k) 0 145 9 = Int32.ofNat (z ||| 2 ^ k) := by
    rw [thr_eq, upM_at, upd_ne (by decide), saveM, upM_at, upd_at, s145, z2, i_one z z1 k hk2]
  have hs := hp.2.2.2.2.1
  generalize thr (saveM (upM (savC M k) 157 g) k) 0 = M2 at *
  have tk : TrN M2 (22 + 9 * k) (M 149) m S t := TrN_fr (TrN_bec (x := 22 + 9 * k) hT hwk.1 hwk.2.1 hwk.2.2) (fun q x y => eb q (by omega) (by omega))
  have hwid : ∀ i, i < 2 → widOk M (22 + 9 * i) → widOk M2 (22 + 9 * i) := fun i hi h => by
    by_cases ei : i = k
    · subst ei; exact TrN_wid tk
    · exact wid_fr h (fun q x y => e q (by omega) (by omega) (by omega) (by omega) (by omega))
  refine ⟨⟨m, S, t, ?_, ?_⟩, ⟨wid_fr b1 (fun q x y => e q (by omega) (by omega) (by omega) (by omega) (by omega)), wid_fr b2 (fun q x y => e q (by omega) (by omega) (by omega) (by omega) (by omega))⟩, ⟨nx, cc, his_fr hc (fun q x y => e q (by omega) (by omega) (by omega) (by omega) (by omega)) (e145 7 (by omega) (by omega)) (e 151 (by omega) (by omega) (by omega) (by omega) (by omega))⟩, ⟨z ||| 2 ^ k, y1, e9, hwid 0 (by omega) z3, hwid 1 (by omega) z4, fun i hi => ?_⟩, ⟨n, inp_fr hn (by rw [e 1 (by omega) (by omega) (by omega) (by omega) (by omega)]) (e 2 (by omega) (by omega) (by omega) (by omega) (by omega)) (e145 13 (by omega) (by omega)) (e 155 (by omega) (by omega) (by omega) (by omega) (by omega))⟩, err_fr he (e 1 (by omega) (by omega) (by omega) (by omega) (by omega)) (e145 16 (by omega) (by omega)) (e145 17 (by omega) (by omega)), ⟨p, out_fr hp (e145 15 (by omega) (by omega)) (e 142 (by omega) (by omega) (by omega) (by omega) (by omega)) (fun j _ => by rw [e sb (by omega) (by omega) (by omega) (by omega) (by omega)]) (e 156 (by omega) (by omega) (by omega) (by omega) (by omega))⟩, key_fr hk (e 146 (by omega) (by omega) (by omega) (by omega) (by omega)) (e 147 (by omega) (by omega) (by omega) (by omega) (by omega)) (e 148 (by omega) (by omega) (by omega) (by omega) (by omega))⟩
  · rw [e 149 (by omega) (by omega) (by omega) (by omega) (by omega)]
    exact TrN_fr hT (fun q x y => e q (by omega) (by omega) (by omega) (by omega) (by omega))
  · rw [e 149 (by omega) (by omega) (by omega) (by omega) (by omega)]
    exact hR
  · rw [e141, e152]
    by_cases ei : i = k
    · subst ei
      rw [upd_at, y2]
      refine ⟨by decide +kernel, fun _ => kept_congr (fun j hj => ?_) ⟨m, S, t, tk, hR⟩⟩
      rw [rowAt, copyF, if_pos (by omega)]
      congr 1
      omega
    · rw [upd_ne ei, y3 i hi ei]
      refine ⟨(z5 i hi).1, fun hzb => kept_congr (fun j hj => ?_) (kept_fr ((z5 i hi).2 hzb) (fun q x y => e q (by omega) (by omega) (by omega) (by omega) (by omega)))⟩
      rw [rowAt, rowAt, copyF, if_neg (by omega)]
section LAW
variable {hs : Nat → Int32} {d len sb i c s : Nat} {f : Nat → Int32} {ext : List sh} {M : mM} {Q : mQ} {v6 v7 v8 v9 : Value}
theorem law_restore (hI : Inv sb ext M) (hi : i + 6 ≤ len) (hlen : len ≤ 3072) (hK : Lcont (RO9 hs len f) (d + 30) Q ext i c s) : GoP (RO9 hs len f) (d + 30) 358 (lawL i v6 v7 v8 v9) [] (gW sb ext) M 2127 c s Q := by
  obtain ⟨m, S, t, nx, cc, hT, hR, hw, hH⟩ := hI.parts
  obtain ⟨z, hz⟩ := hI.2.2.2.1
  have hc := hH.2.1
  have hc7 := hH.2.2.2.2.1
  refine wp_sound [2133, 2146, 2408] 90 _ _ _ _ _ _ _ ?_
  refine go_ald (j := i + 1) rfl (i_add i 1) (by omega) (by omega) ?_
  refine wp_sound [2133, 2146, 2408] 90 _ _ _ _ _ _ _ ?_
  refine w_restore hT hH hz (fun he M1 m' S' t' hT1 hR1 hF ho => ?_) (fun hne => ?_)
  · have hx : ∀ q, 140 < q → q ≠ 157 → M1 q = M q := fun q h1 h2 => by rw [hF q (by omega) h2, his_hi hH.1 h1]
    have e149 : M1 149 = M 149 := hx 149 (by omega) (by omega)
    have e152 : M1 152 = M 152 := hx 152 (by omega) (by omega)
    have e145 : M1 145 = M 145 := hx 145 (by omega) (by omega)
    refine go_ald (j := i + 1) rfl (i_add i 1) (by omega) (by omega) ?_
    refine wp_sound [2133, 2146, 2408] 90 _ _ _ _ _ _ _ ?_
    refine m_restore e149 e152 hz.1 (by rw [e145]; exact hz.2.1) hc (by rw [e145]; exact hc7) ⟨fun hne2 => absurd he hne2, fun he2 M2 b hD hb => ?_⟩
    have o157 : M2 157 = M1 157 := hD.2.2.2.2.2 157 (by omega) (by omega) (by omega) (by omega)
    have hfin := inv_do hI hT hR hH (TrN_congr (fun j hj => copyF_row (O := M 149) hj) hT1) (rOk_congr (fun j hj => copyF_row (O := M 149) hj) hR1) hF hD
    refine e_thrown.use ?_
    refine ⟨fun _ => ?_, fun h => absurd hD.2.2.2.1 h⟩
    refine ⟨fun _ => ?_, fun h => absurd rfl h⟩
    refine ⟨0, rfl, by omega, ?_⟩
    refine ⟨fun _ => ?_, fun h => absurd ?_ h⟩
    · exact hK _ _ _ _ _ _ _ _ _ hfin (by omega) (by omega)
    · rw [o157, ho, hb]; exact lcmp_self
  · refine go_ald (j := i + 1) rfl (i_add i 1) (by omega) (by omega) ?_
    refine wp_sound [2133, 2146, 2408] 90 _ _ _ _ _ _ _ ?_
    refine m_restore rfl rfl hz.1 hz.2.1 hc hc7 ⟨fun hne2 => ?_, fun he2 => absurd he2 hne⟩
    refine e_thrown.use ?_
    refine ⟨fun _ => ?_, fun h => absurd thr_3 h⟩
    refine ⟨fun h0 => absurd h0 hne, fun _ => ?_⟩
    exact hK _ _ _ _ _ _ _ _ _ (hI.fr (FrL.of FrQ.refl FrM.refl.thr)) (by omega) (by omega)
theorem law_undo (hI : Inv sb ext M) (hi : i + 6 ≤ len) (hlen : len ≤ 3072) (hK : Lcont (RO9 hs len f) (d + 30) Q ext i c s) : GoP (RO9 hs len f) (d + 30) 358 (lawL i v6 v7 v8 v9) [] (gW sb ext) M 2183 c s Q := by
  obtain ⟨m, S, t, nx, cc, hT, hR, hw, hH⟩ := hI.parts
  have hc := hH.2.1
  have hc7 := hH.2.2.2.2.1
  refine wp_sound [2408] 90 _ _ _ _ _ _ _ ?_
  refine w_undo hT hH (fun h9 => ?_) (fun h9 => ?_)
  · refine e_undo hc hc7 (fun _ => ?_) (fun h8 => absurd h9 (by omega))
    refine e_thrown.use ?_
    refine ⟨fun _ => ?_, fun h => absurd thr_3 h⟩
    refine ⟨fun h0 => absurd h0 (by decide), fun _ => ?_⟩
    exact hK _ _ _ _ _ _ _ _ _ (hI.fr (FrL.of FrQ.refl FrM.refl.thr)) (by omega) (by omega)
  · have e145 : (upM (bakM M nx cc) 157 (upd (M 157) 0 (Int32.ofNat (cc - 1)).toInt64.toInt32)) 145 = M 145 := by
      rw [upM_ne (by decide), bakM, upM_ne (by decide), becM_far (by omega)]
    have e149 : (upM (bakM M nx cc) 157 (upd (M 157) 0 (Int32.ofNat (cc - 1)).toInt64.toInt32)) 149 = M 149 := by
      rw [upM_ne (by decide), bakM, upM_ne (by decide), becM_far (by omega)]
    have e151 : (upM (bakM M nx cc) 157 (upd (M 157) 0 (Int32.ofNat (cc - 1)).toInt64.toInt32)) 151 = M 151 := by
      rw [upM_ne (by decide), bakM, upM_ne (by decide), becM_far (by omega)]
    have o157 : (upM (bakM M nx cc) 157 (upd (M 157) 0 (Int32.ofNat (cc - 1)).toInt64.toInt32)) 157 0 = Int32.ofNat (cc - 1) := by
      rw [upM_at, upd_at, l_i]
    have hfin := inv_undo (g := upd (M 157) 0 (Int32.ofNat (cc - 1)).toInt64.toInt32) hI hH h9
    generalize hM1 : upM (bakM M nx cc) 157 (upd (M 157) 0 (Int32.ofNat (cc - 1)).toInt64.toInt32) = M1 at *
    refine e_undo (M := M1) hc (by rw [e145]; exact hc7) (fun h8 => absurd h9 (by omega)) (fun _ => ?_)
    rw [← e145, ← e149, ← e151] at hfin
    have o2 : thr (upM (upM M1 145 (upd (M1 145) 7 (Int32.ofNat (cc - 1)))) 149 (copyF (M1 149) 0 (M1 151) ((cc - 1) * 207) 207)) 0 157 0 = Int32.ofNat (cc - 1) := o157
    refine e_thrown.use ?_
    refine ⟨fun _ => ?_, fun h => absurd rfl h⟩
    refine ⟨fun _ => ?_, fun h => absurd rfl h⟩
    refine ⟨0, rfl, by omega, ?_⟩
    refine ⟨fun _ => ?_, fun h => absurd ?_ h⟩
    · exact hK _ _ _ _ _ _ _ _ _ hfin (by omega) (by omega)
    · rw [o2]; exact lcmp_self
theorem law_save (hI : Inv sb ext M) (hi : i + 6 ≤ len) (hlen : len ≤ 3072) (hK : Lcont (RO9 hs len f) (d + 30) Q ext i c s) : GoP (RO9 hs len f) (d + 30) 358 (lawL i v6 v7 v8 v9) [] (gW sb ext) M 2227 c s Q := by
  obtain ⟨m, S, t, nx, cc, hT, hR, hw, hH⟩ := hI.parts
  obtain ⟨z, hz⟩ := hI.2.2.2.1
  refine wp_sound [2233, 2246, 2408] 90 _ _ _ _ _ _ _ ?_
  refine go_ald (j := i + 1) rfl (i_add i 1) (by omega) (by omega) ?_
  refine wp_sound [2233, 2246, 2408] 90 _ _ _ _ _ _ _ ?_
  refine w_save hT hz (fun h9 => ?_) (fun k hk hv => ?_)
  · refine go_ald (j := i + 1) rfl (i_add i 1) (by omega) (by omega) ?_
    refine wp_sound [2233, 2246, 2408] 90 _ _ _ _ _ _ _ ?_
    refine e_save (fun _ => ?_) (fun k hk hv => absurd h9 (by rw [show inB (f (i + 1)) 0 1 = true from inB_on (n := 1) (by omega) hk hv]; decide))
    refine e_thrown.use ?_
    refine ⟨fun _ => ?_, fun h => absurd thr_3 h⟩
    refine ⟨fun h0 => absurd h0 (by decide), fun _ => ?_⟩
    exact hK _ _ _ _ _ _ _ _ _ (hI.fr (FrL.of FrQ.refl FrM.refl.thr)) (by omega) (by omega)
  · have e145 : (upM (savC M k) 157 (upd (M 157) 0 (zb ((z ||| 2 ^ k).testBit 0) + zb ((z ||| 2 ^ k).testBit 1)).toInt64.toInt32)) 145 = M 145 := by
      rw [upM_ne (by decide), savC, upM_ne (by decide), becM_far (by omega)]
    have o157 : (upM (savC M k) 157 (upd (M 157) 0 (zb ((z ||| 2 ^ k).testBit 0) + zb ((z ||| 2 ^ k).testBit 1)).toInt64.toInt32)) 157 0 = zb ((z ||| 2 ^ k).testBit 0) + zb ((z ||| 2 ^ k).testBit 1) := by
      rw [upM_at, upd_at, l_i]
    have hfin := inv_save (g := upd (M 157) 0 (zb ((z ||| 2 ^ k).testBit 0) + zb ((z ||| 2 ^ k).testBit 1)).toInt64.toInt32) hI hz hk
    generalize hM1 : upM (savC M k) 157 (upd (M 157) 0 (zb ((z ||| 2 ^ k).testBit 0) + zb ((z ||| 2 ^ k).testBit 1)).toInt64.toInt32) = M1 at *
    refine go_ald (j := i + 1) rfl (i_add i 1) (by omega) (by omega) ?_
    refine wp_sound [2233, 2246, 2408] 90 _ _ _ _ _ _ _ ?_
    refine e_save (M := M1) (fun h8 => absurd h8 (by rw [show inB (f (i + 1)) 0 1 = true from inB_on (n := 1) (by omega) hk hv]; decide)) (fun k2 hk2 hv2 => ?_)
    have hkk : k2 = k := i_inj (by omega) (by omega) (hv2.symm.trans hv)
    subst hkk
    have hb : (((M1 145 9 ||| ((1 : Int32) <<< (f (i + 1) &&& 31))) &&& 1) + ((M1 145 9 ||| ((1 : Int32) <<< (f (i + 1) &&& 31))) >>> ((1 : Int32) &&& 31))) = zb ((z ||| 2 ^ k2).testBit 0) + zb ((z ||| 2 ^ k2).testBit 1) := by
      rw [e145, hz.2.1, hv, i_one z hz.1 k2 hk, i_cnt _ (or_bit z hz.1 k2 hk).1]
    have o2 : thr (saveM M1 k2) 0 157 0 = zb ((z ||| 2 ^ k2).testBit 0) + zb ((z ||| 2 ^ k2).testBit 1) := o157
    refine e_thrown.use ?_
    refine ⟨fun _ => ?_, fun h => absurd rfl h⟩
    refine ⟨fun _ => ?_, fun h => absurd rfl h⟩
    refine ⟨0, rfl, by omega, ?_⟩
    refine ⟨fun _ => ?_, fun h => absurd ?_ h⟩
    · exact hK _ _ _ _ _ _ _ _ _ hfin (by omega) (by omega)
    · rw [o2, hb]; exact lcmp_self
theorem law_feed (hI : Inv sb ext M) (hi : i + 6 ≤ len) (hlen : len ≤ 3072) (hK : Lcont (RO9 hs len f) (d + 30) Q ext i c s) : GoP (RO9 hs len f) (d + 30) 358 (lawL i v6 v7 v8 v9) [] (gW sb ext) M 220 c s Q := by
  obtain ⟨n, hn⟩ := hI.2.2.2.2.1
  refine wp_sound [226, 232, 238, 244, 250, 263, 269, 275, 281, 287, 2408] 90 _ _ _ _ _ _ _ ?_
  refine go_ald (j := i + 1) rfl (i_add i 1) (by omega) (by omega) ?_
  refine wp_sound [226, 232, 238, 244, 250, 263, 269, 275, 281, 287, 2408] 90 _ _ _ _ _ _ _ ?_
  refine go_ald (j := i + 2) rfl (i_add i 2) (by omega) (by omega) ?_
  refine wp_sound [226, 232, 238, 244, 250, 263, 269, 275, 281, 287, 2408] 90 _ _ _ _ _ _ _ ?_
  refine go_ald (j := i + 3) rfl (i_add i 3) (by omega) (by omega) ?_
  refine wp_sound [226, 232, 238, 244, 250, 263, 269, 275, 281, 287, 2408] 90 _ _ _ _ _ _ _ ?_
  refine go_ald (j := i + 4) rfl (i_add i 4) (by omega) (by omega) ?_
  refine wp_sound [226, 232, 238, 244, 250, 263, 269, 275, 281, 287, 2408] 90 _ _ _ _ _ _ _ ?_
  refine go_ald (j := i + 5) rfl (i_add i 5) (by omega) (by omega) ?_
  refine wp_sound [226, 232, 238, 244, 250, 263, 269, 275, 281, 287, 2408] 90 _ _ _ _ _ _ _ ?_
  refine w_feed hn.1 hn.2.1 (fun h9 => ?_) (fun h9 => ?_)
  · refine go_ald (j := i + 1) rfl (i_add i 1) (by omega) (by omega) ?_
    refine wp_sound [226, 232, 238, 244, 250, 263, 269, 275, 281, 287, 2408] 90 _ _ _ _ _ _ _ ?_
    refine go_ald (j := i + 2) rfl (i_add i 2) (by omega) (by omega) ?_
    refine wp_sound [226, 232, 238, 244, 250, 263, 269, 275, 281, 287, 2408] 90 _ _ _ _ _ _ _ ?_
    refine go_ald (j := i + 3) rfl (i_add i 3) (by omega) (by omega) ?_
    refine wp_sound [226, 232, 238, 244, 250, 263, 269, 275, 281, 287, 2408] 90 _ _ _ _ _ _ _ ?_
    refine go_ald (j := i + 4) rfl (i_add i 4) (by omega) (by omega) ?_
    refine wp_sound [226, 232, 238, 244, 250, 263, 269, 275, 281, 287, 2408] 90 _ _ _ _ _ _ _ ?_
    refine go_ald (j := i + 5) rfl (i_add i 5) (by omega) (by omega) ?_
    refine wp_sound [226, 232, 238, 244, 250, 263, 269, 275, 281, 287, 2408] 90 _ _ _ _ _ _ _ ?_
    refine e_feed hn.1 hn.2.2.1 (fun _ => ?_) (fun h8 => absurd h9 (by omega))
    refine e_thrown.use ?_
    refine ⟨fun _ => ?_, fun h => absurd thr_3 h⟩
    refine ⟨fun h0 => absurd h0 (by decide), fun _ => ?_⟩
    exact hK _ _ _ _ _ _ _ _ _ (hI.fr (FrL.of FrQ.refl FrM.refl.thr)) (by omega) (by omega)
  · have e145 : (upM (wF20 M n (f (i + 1)) (f (i + 2)) (f (i + 3)) (f (i + 4)) (f (i + 5))) 157 (upd (M 157) 0 (Int32.ofNat (n + 20)).toInt64.toInt32)) 145 = M 145 := by
      rw [upM_ne (by decide), wF20_q (by decide) (by decide)]
    have o157 : (upM (wF20 M n (f (i + 1)) (f (i + 2)) (f (i + 3)) (f (i + 4)) (f (i + 5))) 157 (upd (M 157) 0 (Int32.ofNat (n + 20)).toInt64.toInt32)) 157 0 = Int32.ofNat (n + 20) := by
      rw [upM_at, upd_at, l_i]
    have hfin := inv_feed (xa := f (i + 1)) (xb := f (i + 2)) (xc := f (i + 3)) (xe := f (i + 4)) (xf := f (i + 5)) (g := upd (M 157) 0 (Int32.ofNat (n + 20)).toInt64.toInt32) hI hn h9
    generalize hM1 : upM (wF20 M n (f (i + 1)) (f (i + 2)) (f (i + 3)) (f (i + 4)) (f (i + 5))) 157 (upd (M 157) 0 (Int32.ofNat (n + 20)).toInt64.toInt32) = M1 at *
    refine go_ald (j := i + 1) rfl (i_add i 1) (by omega) (by omega) ?_
    refine wp_sound [226, 232, 238, 244, 250, 263, 269, 275, 281, 287, 2408] 90 _ _ _ _ _ _ _ ?_
    refine go_ald (j := i + 2) rfl (i_add i 2) (by omega) (by omega) ?_
    refine wp_sound [226, 232, 238, 244, 250, 263, 269, 275, 281, 287, 2408] 90 _ _ _ _ _ _ _ ?_
    refine go_ald (j := i + 3) rfl (i_add i 3) (by omega) (by omega) ?_
    refine wp_sound [226, 232, 238, 244, 250, 263, 269, 275, 281, 287, 2408] 90 _ _ _ _ _ _ _ ?_
    refine go_ald (j := i + 4) rfl (i_add i 4) (by omega) (by omega) ?_
    refine wp_sound [226, 232, 238, 244, 250, 263, 269, 275, 281, 287, 2408] 90 _ _ _ _ _ _ _ ?_
    refine go_ald (j := i + 5) rfl (i_add i 5) (by omega) (by omega) ?_
    refine wp_sound [226, 232, 238, 244, 250, 263, 269, 275, 281, 287, 2408] 90 _ _ _ _ _ _ _ ?_
    refine e_feed (M := M1) hn.1 (by rw [e145]; exact hn.2.2.1) (fun h8 => absurd h9 (by omega)) (fun _ => ?_)
    have o2 : thr (feedM20 M1 n (f (i + 1)) (f (i + 2)) (f (i + 3)) (f (i + 4)) (f (i + 5))) 0 157 0 = Int32.ofNat (n + 20) := by
      rw [thr_eq, upM_ne (by decide), fM20_q (by decide) (by decide)]; exact o157
    have o3 : thr (feedM20 M1 n (f (i + 1)) (f (i + 2)) (f (i + 3)) (f (i + 4)) (f (i + 5))) 0 145 3 = 0 := thr_3
    unfold feedM20 at o2 o3 hfin
    refine e_thrown.use ?_
    refine ⟨fun _ => ?_, fun h => absurd o3 h⟩
    refine ⟨fun _ => ?_, fun h => absurd rfl h⟩
    refine ⟨0, rfl, by omega, ?_⟩
    refine ⟨fun _ => ?_, fun h => absurd ?_ h⟩
    · exact hK _ _ _ _ _ _ _ _ _ hfin (by omega) (by omega)
    · rw [o2]; exact lcmp_self
end LAW
