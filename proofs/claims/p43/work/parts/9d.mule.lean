/-! the class's lines: a new mule -/
theorem lettN_of {N : Nat → Int32} {i L : Nat} (h : ∀ x, x < L → ¬ N (15 + 8 * i + 2 + x) = 0) (hL : L ≤ 6) (h0 : L < 6 → N (15 + 8 * i + 2 + L) = 0) : lettN N i = L := by
  have hno : ∀ x, x ≤ L → pick (fun n => decide (N (15 + 8 * i + 2 + n) = 0)) (fun _ _ => false) x = none := by
    intro x
    induction x with
    | zero => intro _; rfl
    | succ x ih => intro hx; rw [pick_off (decide_eq_false (h x (by omega)))]; exact ih (by omega)
  rw [lettN, lettI]
  rcases Nat.lt_or_ge L 6 with h7 | h7
  · rw [pick_stays (pick_new (hno L (Nat.le_refl _)) (show (fun n => decide (N (15 + 8 * i + 2 + n) = 0)) L = true from decide_eq_true (h0 h7))) 6 (by omega)]; rfl
  · rw [hno 6 (by omega)]
    exact (by omega : 6 = L)
section NEWM
variable {B : Nat → Nat} {s p m : Nat} {N : Nat → Int32} {v : Int32}
theorem nM_lo {j : Nat} (h : j < 15 + 8 * m) (h3 : j ≠ 3) : newMuleN B s p N m v j = N j := by
  rw [newMuleN, if_neg (by omega), if_neg (by omega), if_neg (by omega), if_neg h3]
theorem nM_hi {j : Nat} (h : 15 + 8 * m + 8 ≤ j) : newMuleN B s p N m v j = N j := by
  rw [newMuleN, if_neg (by omega), if_neg (by omega), if_neg (by omega), if_neg (by omega)]
theorem nM_3 : newMuleN B s p N m v 3 = Int32.ofNat (m + 1) := by
  rw [newMuleN, if_neg (by omega), if_neg (by omega), if_neg (by omega), if_pos rfl]
theorem nM_0 : newMuleN B s p N m v (15 + 8 * m) = v := by
  rw [newMuleN, if_pos rfl]
theorem nM_1 : newMuleN B s p N m v (15 + 8 * m + 1) = 0 := by
  rw [newMuleN, if_neg (by omega), if_pos rfl]
theorem nM_2 {j : Nat} (h : j < 6) : newMuleN B s p N m v (15 + 8 * m + 2 + j) = if j < p - s then Int32.ofNat (B (s + j)) else 0 := by
  rw [newMuleN, if_neg (by omega), if_neg (by omega), if_pos (by omega), show 15 + 8 * m + 2 + j - (15 + 8 * m + 2) = j by omega]
theorem lett_new (h6 : p - s ≤ 6) (hlet : ∀ j, s ≤ j → j < p → 97 ≤ B j ∧ B j ≤ 122) : lettN (newMuleN B s p N m v) m = p - s := by
  refine lettN_of (fun x hx => ?_) h6 (fun h => by rw [nM_2 h, if_neg (by omega)])
  rw [nM_2 (by omega), if_pos hx]
  intro h9
  have hb := hlet (s + x) (by omega) (by omega)
  have := i_inj (by omega) (by omega) (h9.trans (show (0 : Int32) = Int32.ofNat 0 from rfl))
  omega
theorem TrN_new {M M' : mM} {S t : Nat} (hT : TrN M 3 N m S t) (hm : m < 6) (h6 : p - s ≤ 6) (hlet : ∀ j, s ≤ j → j < p → 97 ≤ B j ∧ B j ≤ 122) (hq : ∀ q, 3 ≤ q → q ≤ 11 → q ≠ 6 → q ≠ 7 → M' q = M q) (k0 : M' 6 0 = 9) (k2 : M' 6 2 = Int32.ofNat (m + 1)) (hlo : ∀ j, j < 9 * m → M' 7 j = M 7 j) (r0 : M' 7 (9 * m) = v) (r1 : M' 7 (9 * m + 1) = 0) (r2 : M' 7 (9 * m + 2) = Int32.ofNat (p - s)) (r3 : ∀ j, j < 6 → M' 7 (9 * m + 3 + j) = if j < p - s then Int32.ofNat (B (s + j)) else 0) : TrN M' 3 (newMuleN B s p N m v) (m + 1) S t := by
  obtain ⟨⟨a1, a2, a3, a4, a5, a6⟩, b, c, dd, e, f, g, h, i, j⟩ := hT
  refine ⟨⟨nM_3, by rw [nM_lo (by omega) (by omega)]; exact a2, by rw [nM_lo (by omega) (by omega)]; exact a3, by omega, a5, a6⟩, ?_, ?_, ⟨k0, k2⟩, ?_, fun x hx => ?_, fun x hx => ?_, fun x y hx hy => ?_, fun x hx => ?_, fun x y hx hy => ?_⟩
  · rw [hq 3 (by omega) (by omega) (by omega) (by omega), nM_lo (by omega) (by omega), nM_lo (by omega) (by omega)]; exact b
  · rw [hq (3 + 1) (by omega) (by omega) (by omega) (by omega)]; exact c
  · rw [hq (3 + 5) (by omega) (by omega) (by omega) (by omega)]; exact e
  · rw [hq (3 + 7) (by omega) (by omega) (by omega) (by omega), nM_lo (by omega) (by omega)]; exact f x hx
  · rw [hq (3 + 8) (by omega) (by omega) (by omega) (by omega), nM_lo (by omega) (by omega)]; exact g x hx
  · rw [hq (3 + 2) (by omega) (by omega) (by omega) (by omega), nM_hi (by omega)]; exact h x y hx hy
  · by_cases hxm : x = m
    · subst hxm
      exact ⟨by rw [nM_0]; exact r0, by rw [nM_1]; exact r1, by rw [lett_new h6 hlet]; exact r2, fun j hj => by rw [nM_2 hj]; exact r3 j hj⟩
    · obtain ⟨i1, i2, i3, i4⟩ := i x (by omega)
      have hl : lettN (newMuleN B s p N m v) x = lettN N x := lettN_congr (fun n hn => nM_lo (by omega) (by omega))
      refine ⟨?_, ?_, ?_, fun j hj => ?_⟩
      · rw [hlo _ (by omega), nM_lo (by omega) (by omega)]; exact i1
      · rw [hlo _ (by omega), nM_lo (by omega) (by omega)]; exact i2
      · rw [hlo _ (by omega), hl]; exact i3
      · rw [hlo _ (by omega), nM_lo (by omega) (by omega)]; exact i4 j hj
  · rw [hq (3 + 6) (by omega) (by omega) (by omega) (by omega), nM_hi (by omega)]; exact j x y hx hy
end NEWM
section LIN
variable {RO : List mE} {d n : Nat} {c9 : sh} {r9 : List sh} {M : mM} {Q : mQ} {B : Nat → Nat} {N : Nat → Int32} {m S t : Nat}
theorem c_pmule {e x0 : Nat} (hL : LSt M n B N m S t e x0) (hQ : LQ Q (gX c9 r9) M n (pMule B n x0 e N m S t)) : EvP RO (d + 8) 16 [.ref 1] (gX c9 r9) M Q := by
  have hG : pw (gX c9 r9) := pw_X
  obtain ⟨hP, hO, hT, hC, h5⟩ := hL
  obtain ⟨hok, her⟩ := hQ
  have hn := hP.1
  have hm := hT.1.2.2.2.1
  have hfull := fun d => c_isFullM (RO := RO) (d := d) (GG := gX c9 r9) bas_X hT.2.2.2.1.1 hT.2.2.2.1.2 hm
  refine EvP.wp [84] 60 rfl ?_
  refine (hfull _).use ?_
  refine zb_if (fun hf => ?_) (fun hf => ?_)
  rotate_left
  · have hm6 : m = 6 := by
      have := of_decide_eq_true hf
      omega
    have hE := er_note (M := M) (M1 := M) (k := 5) FrT.refl h5 (by omega) (by omega)
    refine (c_note (x := Int32.ofNat 5) hG hO.1).use ?_
    have hno := hE.no
    refine (c_nameX hG hno).use ?_
    refine ⟨fun h => absurd h hno, fun _ => ?_⟩
    refine ⟨fun h => absurd h hno, fun _ => ?_⟩
    exact her 5 x0 _ (by rw [pMule, if_pos hm6]) (hE.L FrT.refl hT)
  have hm6 : m < 6 := by
    have := of_decide_eq_false hf
    omega
  have hm6' : ¬ m = 6 := by omega
  refine c_name hG hP hC hO.1 (fun M2 p2 f2 c2 g5 g4 tk => ?_) (fun k x M2 p2 hE => ?_)
  rotate_left
  · have hno := hE.no
    refine ⟨fun h => absurd h hno, fun _ => ?_⟩
    refine ⟨fun h => absurd h hno, fun _ => ?_⟩
    exact her k x _ (by simp only [pMule, if_neg hm6', p2]) (hE.L FrT.refl hT)
  have hle := tok1_le hC.2.1 tk
  have hlet0 := (tok_1 hC.2.1 tk).2.2
  have h6 : tokE B n e - skp B n e ≤ 6 := by
    unfold pName at p2
    split at p2
    · rename_i h; exact h.2
    · cases p2
  have hq := fun d => c_muleOfName (RO := RO) (d := d) hG (f2.P hP) (f2.Tr hT) g5 g4 (by omega) hle.2
  refine ⟨fun _ => ?_, fun h => absurd (f2.ok hO).1 h⟩
  by_cases hix : mulIx B (skp B n e) (tokE B n e) N m < m
  · have hmv : mulV B (skp B n e) (tokE B n e) N m = Int32.ofNat (mulIx B (skp B n e) (tokE B n e) N m) := if_pos hix
    simp only [hmv] at hq
    refine (hq _).use ?_
    refine ⟨fun h => absurd h (i_ne_m1 (by omega)), fun _ => ?_⟩
    have hE := er_note (M := M) (M1 := M2) (k := 4) f2 g5 (by omega) (by omega)
    refine (c_note (x := Int32.ofNat 4) hG (f2.ok hO).1).use ?_
    have hno := hE.no
    refine ⟨fun h => absurd h hno, fun _ => ?_⟩
    exact her 4 _ _ (by simp only [pMule, if_neg hm6', p2, if_pos hix]) (hE.L FrT.refl hT)
  have hmv : mulV B (skp B n e) (tokE B n e) N m = -1 := if_neg hix
  simp only [hmv] at hq
  refine (hq _).use ?_
  refine ⟨fun _ => ?_, fun h => absurd rfl h⟩
  refine ⟨fun _ => ?_, fun h => absurd (f2.ok hO).1 h⟩
  have hT2 := f2.Tr hT
  have hP2 := f2.P hP
  have hO2 := f2.ok hO
  have hlet : ∀ j, skp B n e ≤ j → j < tokE B n e → 97 ≤ B j ∧ B j ≤ 122 := fun j a b => kd1 (hlet0 j a b)
  -- what follows speaks of M2 only
  have hok2 : ∀ v e' M', pNum B n (tokE B n e) true 10 300 = .inr (v, e') → FrP M2 M' → OkC M' → TrN M' 3 (newMuleN B (skp B n e) (tokE B n e) N m v) (m + 1) S t → CR M' n e' true → Q (.inl none) (gX c9 r9) M' 0 0 := fun v e' M' h1 h2 h3 h4 h5 => hok _ _ _ _ _ M' (by simp only [pMule, if_neg hm6', p2, if_neg hix, h1]) ⟨f2.X.Pr.trans h2, h3, h4, h5⟩
  have her2 : ∀ k x M', pNum B n (tokE B n e) true 10 300 = .inl (k, x) → ErL M2 M' k x → Q (.inl none) (gX c9 r9) M' 0 0 := fun k x M' h1 h2 => her k x M' (by simp only [pMule, if_neg hm6', p2, if_neg hix, h1]) ⟨f2.X.Pr.trans h2.1, h2.2⟩
  clear hok her p2 hq hmv hix hO hT hC hP h5 hfull f2
  have hnew := fun d => c_newRowM (RO := RO) (d := d) (GG := gX c9 r9) bas_X hT2.2.2.2.1.1 hT2.2.2.2.1.2 hm6
  refine (hnew _).use ?_
  -- the new row
  have n6 : ∀ q, q ≠ 6 → q ≠ 7 → newM M2 6 m 9 q = M2 q := fun q a b => by rw [newM, upM_ne b, upM_ne a]
  have n60 : newM M2 6 m 9 6 0 = 9 := by rw [newM, upM_ne (by decide), upM_at, upd_ne (by decide)]; exact hT2.2.2.2.1.1
  have n62 : newM M2 6 m 9 6 2 = Int32.ofNat (m + 1) := by rw [newM, upM_ne (by decide), upM_at, upd_at]
  have n7 : ∀ j, newM M2 6 m 9 7 j = if 9 * m ≤ j ∧ j < 9 * m + 9 then 0 else M2 7 j := fun j => by rw [newM, upM_at, zF]
  have hput : ∀ d, EvR RO (d + 1) 38 [.ref 6, .int (Int32.ofNat m), .int 2, .int (newM M2 6 m 9 1 4 - newM M2 6 m 9 1 5)] (gX c9 r9) (newM M2 6 m 9) none (upM (newM M2 6 m 9) 7 (upd (newM M2 6 m 9 7) (9 * m + 2) (Int32.ofNat (tokE B n e - skp B n e)))) := fun d => by
    have h9 := r_putM (RO := RO) (d := d) (GG := gX c9 r9) (M := newM M2 6 m 9) (b := 3) (i := m) (c := 2) (u := m + 1) (x := Int32.ofNat (tokE B n e - skp B n e)) bas_X n60 n62 (by omega) (by omega) (by omega)
    rw [n6 1 (by omega) (by omega), g4, g5, i_sub (by omega)]
    exact h9
  refine (hput _).use ?_
  -- the letters
  have loop : ∀ M3 : mM, (∀ q, q ≠ 6 → q ≠ 7 → M3 q = M2 q) → M3 6 0 = 9 → M3 6 2 = Int32.ofNat (m + 1) → (∀ j, M3 7 j = if j = 9 * m + 2 then Int32.ofNat (tokE B n e - skp B n e) else if 9 * m ≤ j ∧ j < 9 * m + 9 then 0 else M2 7 j) → GoP RO (d + 7) 16 [.ref 1, .int (Int32.ofNat m), .int (Int32.ofNat 0)] [] (gX c9 r9) M3 84 0 0 Q := by
    intro M3 m1 m2 m3 m4
    have key := up_ind (S := tokE B n e - skp B n e) (H := fun k => ∀ M4 : mM, (∀ q, q ≠ 6 → q ≠ 7 → M4 q = M2 q) → M4 6 0 = 9 → M4 6 2 = Int32.ofNat (m + 1) → (∀ j, M4 7 j = if 9 * m + 3 ≤ j ∧ j < 9 * m + 3 + k then Int32.ofNat (B (skp B n e + (j - (9 * m + 3)))) else M3 7 j) → GoP RO (d + 7) 16 [.ref 1, .int (Int32.ofNat m), .int (Int32.ofNat k)] [] (gX c9 r9) M4 84 0 0 Q) (fun M4 q1 q2 q3 q4 => ?_) (fun k hk ih M4 q1 q2 q3 q4 => ?_) 0 (by omega)
    · exact key M3 m1 m2 m3 (fun j => by rw [if_neg (by omega)])
    · -- all letters are there: the number
      have e1 : M4 1 = M2 1 := q1 1 (by omega) (by omega)
      have hlen : M4 1 4 - M4 1 5 = Int32.ofNat (tokE B n e - skp B n e) := by rw [e1, g4, g5, i_sub (by omega)]
      have hP4 : PC M4 n B := ⟨hP2.1, by rw [e1]; exact hP2.2.1, fun j hj => by rw [q1 2 (by omega) (by omega)]; exact hP2.2.2 j hj⟩
      have hC4 := CR_fr c2 e1
      have hO4 := OkC_fr hO2 e1
      refine wp_sound [84] 60 _ _ _ _ _ _ _ ?_
      refine lt_if rfl hlen (by omega) (by omega) (fun h => absurd h (by omega)) (fun _ => ?_)
      have w4 : widOk M4 3 := ⟨by rw [q1 4 (by omega) (by omega)]; exact hT2.2.2.1.1, q2, by rw [q1 8 (by omega) (by omega)]; exact hT2.2.2.2.2.1.1⟩
      refine c_num hG hP4 hC4 hO4.1 (fun v e3 M5 p3 f3 c3 => ?_) (fun k x M5 v p3 hE => ?_)
      · have hp := fun d => r_putM (RO := RO) (d := d) (GG := gX c9 r9) (M := M5) (b := 3) (i := m) (c := 0) (u := m + 1) (x := v) bas_X (by rw [f3.1 (3 + 3) (by decide)]; exact q2) (by rw [f3.1 (3 + 3) (by decide)]; exact q3) (by omega) (by omega) (by omega)
        refine (hp _).use ?_
        have e7 : ∀ j, M5 7 j = M4 7 j := fun j => by rw [f3.1 7 (by decide)]
        refine hok2 v e3 _ p3 ⟨fun q a b => ?_, fun j hj => ?_⟩ (OkC_fr (f3.ok hO4) (upM_ne (by decide))) (TrN_new hT2 hm6 h6 hlet (fun q a b x y => ?_) ?_ ?_ (fun j hj => ?_) ?_ ?_ ?_ (fun j hj => ?_)) (CR_fr c3 (upM_ne (by decide)))
        · rw [upM_ne (by omega), f3.1 q b, q1 q (by omega) (by omega)]
        · rw [upM_ne (by decide), f3.2 j (by omega), e1]
        · rw [upM_ne (by omega), f3.1 q (by omega), q1 q x y]
        · rw [upM_ne (by decide), f3.1 6 (by decide)]; exact q2
        · rw [upM_ne (by decide), f3.1 6 (by decide)]; exact q3
        · rw [upM_at, upd_ne (by omega), e7, q4, if_neg (by omega), m4, if_neg (by omega), if_neg (by omega)]
        · rw [upM_at, show 9 * m + 0 = 9 * m from rfl, upd_at]
        · rw [upM_at, upd_ne (by omega), e7, q4, if_neg (by omega), m4, if_neg (by omega), if_pos (by omega)]
        · rw [upM_at, upd_ne (by omega), e7, q4, if_neg (by omega), m4, if_pos rfl]
        · rw [upM_at, upd_ne (by omega), e7, q4]
          by_cases hjl : j < tokE B n e - skp B n e
          · rw [if_pos (by omega), if_pos hjl, show 9 * m + 3 + j - (9 * m + 3) = j by omega]
          · rw [if_neg (by omega), if_neg hjl, m4, if_neg (by omega), if_pos (by omega)]
      · have x6 : M5 6 = M4 6 := hE.1.1 6 (by decide)
        have hp := fun d => r_putM (RO := RO) (d := d) (GG := gX c9 r9) (M := M5) (b := 3) (i := m) (c := 0) (u := m + 1) (x := v) bas_X (by rw [hE.1.1 (3 + 3) (by decide)]; exact q2) (by rw [hE.1.1 (3 + 3) (by decide)]; exact q3) (by omega) (by omega) (by omega)
        refine (hp _).use ?_
        refine her2 k x _ p3 ⟨⟨fun q a b => ?_, fun j hj => ?_⟩, ⟨?_, ?_, ?_⟩, ?_, ?_, hE.2.2.2.1, hE.2.2.2.2⟩
        · rw [upM_ne (by omega), hE.1.1 q b, q1 q (by omega) (by omega)]
        · rw [upM_ne (by decide), hE.1.2 j hj, e1]
        · rw [upM_ne (by decide), hE.1.1 _ (by decide)]; exact w4.1
        · rw [upM_ne (by decide), hE.1.1 _ (by decide)]; exact w4.2.1
        · rw [upM_ne (by decide), hE.1.1 _ (by decide)]; exact w4.2.2
        · rw [upM_ne (by decide)]; exact hE.2.1
        · rw [upM_ne (by decide)]; exact hE.2.2.1
    · have e1 : M4 1 = M2 1 := q1 1 (by omega) (by omega)
      have hlen : M4 1 4 - M4 1 5 = Int32.ofNat (tokE B n e - skp B n e) := by rw [e1, g4, g5, i_sub (by omega)]
      have hP4 : PC M4 n B := ⟨hP2.1, by rw [e1]; exact hP2.2.1, fun j hj => by rw [q1 2 (by omega) (by omega)]; exact hP2.2.2 j hj⟩
      have hb : ∀ d, EvR RO (d + 1) 5 [.ref 1, .int (M4 1 5 + Int32.ofNat k)] (gX c9 r9) M4 (some (.int (Int32.ofNat (B (skp B n e + k))))) M4 := fun d => by
        have h9 := c_byteAt (RO := RO) (d := d) (j := skp B n e + k) hG hP4 (by omega)
        rw [bA_in (by omega)] at h9
        rw [e1, g5, i_add]
        exact h9
      have hp : ∀ d, EvR RO (d + 1) 38 [.ref 6, .int (Int32.ofNat m), .int (3 + Int32.ofNat k), .int (Int32.ofNat (B (skp B n e + k)))] (gX c9 r9) M4 none (upM M4 7 (upd (M4 7) (9 * m + (3 + k)) (Int32.ofNat (B (skp B n e + k))))) := fun d => by
        have h9 := r_putM (RO := RO) (d := d) (GG := gX c9 r9) (M := M4) (b := 3) (i := m) (c := 3 + k) (u := m + 1) (x := Int32.ofNat (B (skp B n e + k))) bas_X q2 q3 (by omega) (by omega) (by omega)
        rw [show (3 : Int32) = Int32.ofNat 3 from rfl, i_add]
        exact h9
      refine wp_sound [84] 60 _ _ _ _ _ _ _ ?_
      refine lt_if rfl hlen (by omega) (by omega) (fun _ => ?_) (fun h => absurd h (by omega))
      refine (hb _).use ?_
      refine (hp _).use ?_
      refine GoP.eq2 (ih _ (fun q a b => by rw [upM_ne b]; exact q1 q a b) (by rw [upM_ne (by decide)]; exact q2) (by rw [upM_ne (by decide)]; exact q3) (fun j => ?_)) (by rw [i_inc]) rfl
      rw [upM_at]
      by_cases e9 : j = 9 * m + (3 + k)
      · rw [e9, upd_at, if_pos (by omega), show 9 * m + (3 + k) - (9 * m + 3) = k by omega]
      · rw [upd_ne e9, q4]
        by_cases h8 : 9 * m + 3 ≤ j ∧ j < 9 * m + 3 + k
        · rw [if_pos h8, if_pos (by omega)]
        · rw [if_neg h8, if_neg (by omega)]
  refine loop _ (fun q a b => by rw [upM_ne b]; exact n6 q a b) (by rw [upM_ne (by decide)]; exact n60) (by rw [upM_ne (by decide)]; exact n62) (fun j => ?_)
  rw [upM_at]
  by_cases e9 : j = 9 * m + 2
  · rw [e9, upd_at, if_pos rfl]
  · rw [upd_ne e9, n7, if_neg e9]
end LIN
