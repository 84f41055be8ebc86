/-! a train with one row more, or none at all -/
theorem TrN_newS {M M' : mM} {b : Nat} {N N' : Nat → Int32} {m S t : Nat} (hT : TrN M b N m S t) (hS : S < 16) (hfr : ∀ q, q ≠ b + 1 → q ≠ b + 2 → M' q = M q) (h0 : M' (b + 1) 0 = 8) (h2 : M' (b + 1) 2 = Int32.ofNat (S + 1)) (hlo : ∀ j, j < 8 * S → M' (b + 2) j = M (b + 2) j) (hhi : ∀ c, c < 8 → M' (b + 2) (8 * S + c) = N' (63 + 8 * S + c)) (hN4 : N' 4 = Int32.ofNat (S + 1)) (hN : ∀ j, j ≠ 4 → (j < 63 + 8 * S ∨ 190 < j) → N' j = N j) : TrN M' b N' m (S + 1) t := by
  obtain ⟨⟨a1, a2, a3, a4, a5, a6⟩, ⟨b1, b2⟩, ⟨c1, c2⟩, ⟨d1, d2⟩, ⟨e1, e2⟩, f1, g1, k1, i1, j1⟩ := hT
  refine ⟨⟨by rw [hN 3 (by omega) (by omega)]; exact a1, hN4, by rw [hN 5 (by omega) (by omega)]; exact a3, a4, by omega, a6⟩, ⟨by rw [hfr b (by omega) (by omega), hN 6 (by omega) (by omega)]; exact b1, by rw [hfr b (by omega) (by omega), hN 7 (by omega) (by omega)]; exact b2⟩, ⟨h0, h2⟩, ⟨by rw [hfr _ (by omega) (by omega)]; exact d1, by rw [hfr _ (by omega) (by omega)]; exact d2⟩, ⟨by rw [hfr _ (by omega) (by omega)]; exact e1, by rw [hfr _ (by omega) (by omega)]; exact e2⟩, fun j hj => by rw [hfr _ (by omega) (by omega), hN j (by omega) (by omega)]; exact f1 j hj, fun j hj => by rw [hfr _ (by omega) (by omega), hN _ (by omega) (by omega)]; exact g1 j hj, fun i c hi hc => ?_, fun i hi => ?_, fun i c hi hc => by rw [hfr _ (by omega) (by omega), hN _ (by omega) (by omega)]; exact j1 i c hi hc⟩
  · by_cases e : i = S
    · subst e; exact hhi c hc
    · rw [hlo _ (by omega), hN _ (by omega) (by omega)]; exact k1 i c (by omega) hc
  · obtain ⟨l1, l2, l3, l4⟩ := i1 i hi
    refine ⟨by rw [hfr _ (by omega) (by omega), hN _ (by omega) (by omega)]; exact l1, by rw [hfr _ (by omega) (by omega), hN _ (by omega) (by omega)]; exact l2, ?_, fun j hj => by rw [hfr _ (by omega) (by omega), hN _ (by omega) (by omega)]; exact l4 j hj⟩
    rw [hfr _ (by omega) (by omega), lettN_congr (N := N) (fun n hn => hN _ (by omega) (by omega))]; exact l3
theorem TrN_newT {M M' : mM} {b : Nat} {N N' : Nat → Int32} {m S t : Nat} (hT : TrN M b N m S t) (ht : t < 8) (hfr : ∀ q, q ≠ b + 5 → q ≠ b + 6 → M' q = M q) (h0 : M' (b + 5) 0 = 2) (h2 : M' (b + 5) 2 = Int32.ofNat (t + 1)) (hlo : ∀ j, j < 2 * t → M' (b + 6) j = M (b + 6) j) (hhi : ∀ c, c < 2 → M' (b + 6) (2 * t + c) = N' (191 + 2 * t + c)) (hN5 : N' 5 = Int32.ofNat (t + 1)) (hN : ∀ j, j ≠ 5 → j < 191 + 2 * t → N' j = N j) : TrN M' b N' m S (t + 1) := by
  obtain ⟨⟨a1, a2, a3, a4, a5, a6⟩, ⟨b1, b2⟩, ⟨c1, c2⟩, ⟨d1, d2⟩, ⟨e1, e2⟩, f1, g1, k1, i1, j1⟩ := hT
  refine ⟨⟨by rw [hN 3 (by omega) (by omega)]; exact a1, by rw [hN 4 (by omega) (by omega)]; exact a2, hN5, a4, a5, by omega⟩, ⟨by rw [hfr b (by omega) (by omega), hN 6 (by omega) (by omega)]; exact b1, by rw [hfr b (by omega) (by omega), hN 7 (by omega) (by omega)]; exact b2⟩, ⟨by rw [hfr _ (by omega) (by omega)]; exact c1, by rw [hfr _ (by omega) (by omega)]; exact c2⟩, ⟨by rw [hfr _ (by omega) (by omega)]; exact d1, by rw [hfr _ (by omega) (by omega)]; exact d2⟩, ⟨h0, h2⟩, fun j hj => by rw [hfr _ (by omega) (by omega), hN j (by omega) (by omega)]; exact f1 j hj, fun j hj => by rw [hfr _ (by omega) (by omega), hN _ (by omega) (by omega)]; exact g1 j hj, fun i c hi hc => by rw [hfr _ (by omega) (by omega), hN _ (by omega) (by omega)]; exact k1 i c hi hc, fun i hi => ?_, fun i c hi hc => ?_⟩
  · obtain ⟨l1, l2, l3, l4⟩ := i1 i hi
    refine ⟨by rw [hfr _ (by omega) (by omega), hN _ (by omega) (by omega)]; exact l1, by rw [hfr _ (by omega) (by omega), hN _ (by omega) (by omega)]; exact l2, ?_, fun j hj => by rw [hfr _ (by omega) (by omega), hN _ (by omega) (by omega)]; exact l4 j hj⟩
    rw [hfr _ (by omega) (by omega), lettN_congr (N := N) (fun n hn => hN _ (by omega) (by omega))]; exact l3
  · by_cases e : i = t
    · subst e; exact hhi c hc
    · rw [hlo _ (by omega), hN _ (by omega) (by omega)]; exact j1 i c (by omega) hc
theorem newM_w {M : mM} {q u w : Nat} {x : Int32} (h : M q 0 = x) : newM M q u w q 0 = x := by
  rw [newM, upM_ne (by omega), upM_at, upd_ne (by decide)]; exact h
theorem newM_u {M : mM} {q u w : Nat} : newM M q u w q 2 = Int32.ofNat (u + 1) := by
  rw [newM, upM_ne (by omega), upM_at, upd_at]
theorem newM_lo {M : mM} {q u w j : Nat} (h : j < w * u) : newM M q u w (q + 1) j = M (q + 1) j := by
  rw [newM, upM_at, zF, if_neg (by omega)]
theorem newM_far {M : mM} {q u w r : Nat} (h : r ≠ q) (h2 : r ≠ q + 1) : newM M q u w r = M r := by
  rw [newM, upM_ne h2, upM_ne h]
theorem bringsN_lo {N : Nat → Int32} {k j : Nat} {kd w v : Int32} (h4 : j ≠ 4) (h : j < 63 + 8 * k ∨ 63 + 8 * k + 7 < j) : bringsN N k kd w v j = N j := by
  rw [bringsN, upd_ne h4, bringN, upd_ne (by omega), upd_ne (by omega), upd_ne (by omega), upd_ne (by omega), upd_ne (by omega), upd_ne (by omega), upd_ne (by omega), upd_ne (by omega)]
theorem bringsN_4 {N : Nat → Int32} {k : Nat} {kd w v : Int32} (h : N 4 = Int32.ofNat k) : bringsN N k kd w v 4 = Int32.ofNat (k + 1) := by
  rw [bringsN, upd_at, bringN, upd_ne (by omega), upd_ne (by omega), upd_ne (by omega), upd_ne (by omega), upd_ne (by omega), upd_ne (by omega), upd_ne (by omega), upd_ne (by omega), h, i_inc]
theorem bringsN_c {N : Nat → Int32} {k : Nat} {kd w v : Int32} : bringsN N k kd w v (63 + 8 * k) = kd ∧ bringsN N k kd w v (63 + 8 * k + 1) = w ∧ bringsN N k kd w v (63 + 8 * k + 2) = v ∧ bringsN N k kd w v (63 + 8 * k + 3) = 0 ∧ bringsN N k kd w v (63 + 8 * k + 4) = -1 ∧ bringsN N k kd w v (63 + 8 * k + 5) = -1 ∧ bringsN N k kd w v (63 + 8 * k + 6) = -1 ∧ bringsN N k kd w v (63 + 8 * k + 7) = v := by
  refine ⟨?_, ?_, ?_, ?_, ?_, ?_, ?_, ?_⟩
  · rw [bringsN, upd_ne (by omega), bringN, upd_ne (by omega), upd_ne (by omega), upd_ne (by omega), upd_ne (by omega), upd_ne (by omega), upd_ne (by omega), upd_ne (by omega), upd_at]
  · rw [bringsN, upd_ne (by omega), bringN, upd_ne (by omega), upd_ne (by omega), upd_ne (by omega), upd_ne (by omega), upd_ne (by omega), upd_ne (by omega), upd_at]
  · rw [bringsN, upd_ne (by omega), bringN, upd_ne (by omega), upd_ne (by omega), upd_ne (by omega), upd_ne (by omega), upd_ne (by omega), upd_at]
  · rw [bringsN, upd_ne (by omega), bringN, upd_ne (by omega), upd_ne (by omega), upd_ne (by omega), upd_ne (by omega), upd_at]
  · rw [bringsN, upd_ne (by omega), bringN, upd_ne (by omega), upd_ne (by omega), upd_ne (by omega), upd_at]
  · rw [bringsN, upd_ne (by omega), bringN, upd_ne (by omega), upd_ne (by omega), upd_at]
  · rw [bringsN, upd_ne (by omega), bringN, upd_ne (by omega), upd_at]
  · rw [bringsN, upd_ne (by omega), bringN, upd_at]
theorem leadsN_lo {N : Nat → Int32} {k j : Nat} {kd n : Int32} (h5 : j ≠ 5) (h : j < 191 + 2 * k ∨ 191 + 2 * k + 1 < j) : leadsN N k kd n j = N j := by
  rw [leadsN, upd_ne h5, leadN, upd_ne (by omega), upd_ne (by omega)]
theorem leadsN_5 {N : Nat → Int32} {k : Nat} {kd n : Int32} (h : N 5 = Int32.ofNat k) : leadsN N k kd n 5 = Int32.ofNat (k + 1) := by
  rw [leadsN, upd_at, leadN, upd_ne (by omega), upd_ne (by omega), h, i_inc]
theorem leadsN_c {N : Nat → Int32} {k : Nat} {kd n : Int32} : leadsN N k kd n (191 + 2 * k) = kd ∧ leadsN N k kd n (191 + 2 * k + 1) = n := by
  refine ⟨?_, ?_⟩
  · rw [leadsN, upd_ne (by omega), leadN, upd_ne (by omega), upd_at]
  · rw [leadsN, upd_ne (by omega), leadN, upd_at]
section CLS
variable {RO : List mE} {d : Nat} {GG : List sh} {M : mM} {Q : mQ} {b m S t : Nat} {N : Nat → Int32}
theorem c_newSack {kd w v : Int32} (hb : bas GG b) (hT : TrN M b N m S t) (hS : S < 16) (hQ : ∀ M', TrN M' b (bringsN N S kd w v) m (S + 1) t → FrB b M M' → Q (.inl (some (.int (Int32.ofNat S)))) GG M' 0 0) : EvP RO (d + 3) 61 [.ref b, .int kd, .int w, .int v] GG M Q := by
  have c1 := hT.2.2.1.1
  have c2 := hT.2.2.1.2
  have n0 := fun d => c_newRowS (RO := RO) (d := d) hb c1 c2 hS
  have w1 : newM M (b + 1) S 8 (b + 1) 0 = 8 := newM_w c1
  have u1 : newM M (b + 1) S 8 (b + 1) 2 = Int32.ofNat (S + 1) := newM_u
  have l1 : ∀ j, j < 8 * S → newM M (b + 1) S 8 (b + 2) j = M (b + 2) j := fun j hj => newM_lo hj
  have f1 : ∀ q, q ≠ b + 1 → q ≠ b + 2 → newM M (b + 1) S 8 q = M q := fun q h1 h2 => newM_far h1 h2
  generalize newM M (b + 1) S 8 = M1 at *
  have k1 := fun d => r_putS (RO := RO) (d := d) (c := 0) (x := kd) hb w1 u1 (by omega) (show S < S + 1 by omega) (by omega)
  have e2 : upM M1 (b + 2) (upd (M1 (b + 2)) (8 * S + 0) kd) (b + 2) = upd (M1 (b + 2)) (8 * S + 0) kd := upM_at
  have g2 : ∀ q, q ≠ b + 2 → upM M1 (b + 2) (upd (M1 (b + 2)) (8 * S + 0) kd) q = M1 q := fun q h => upM_ne h
  generalize upM M1 (b + 2) (upd (M1 (b + 2)) (8 * S + 0) kd) = M2 at *
  have w2 : M2 (b + 1) 0 = 8 := by rw [g2 _ (by omega)]; exact w1
  have u2 : M2 (b + 1) 2 = Int32.ofNat (S + 1) := by rw [g2 _ (by omega)]; exact u1
  have k2 := fun d => r_putS (RO := RO) (d := d) (M := M2) (c := 1) (x := w) hb w2 u2 (by omega) (show S < S + 1 by omega) (by omega)
  have e3 : upM M2 (b + 2) (upd (M2 (b + 2)) (8 * S + 1) w) (b + 2) = upd (M2 (b + 2)) (8 * S + 1) w := upM_at
  have g3 : ∀ q, q ≠ b + 2 → upM M2 (b + 2) (upd (M2 (b + 2)) (8 * S + 1) w) q = M2 q := fun q h => upM_ne h
  generalize upM M2 (b + 2) (upd (M2 (b + 2)) (8 * S + 1) w) = M3 at *
  have w3 : M3 (b + 1) 0 = 8 := by rw [g3 _ (by omega)]; exact w2
  have u3 : M3 (b + 1) 2 = Int32.ofNat (S + 1) := by rw [g3 _ (by omega)]; exact u2
  have k3 := fun d => r_putS (RO := RO) (d := d) (M := M3) (c := 2) (x := v) hb w3 u3 (by omega) (show S < S + 1 by omega) (by omega)
  have e4 : upM M3 (b + 2) (upd (M3 (b + 2)) (8 * S + 2) v) (b + 2) = upd (M3 (b + 2)) (8 * S + 2) v := upM_at
  have g4 : ∀ q, q ≠ b + 2 → upM M3 (b + 2) (upd (M3 (b + 2)) (8 * S + 2) v) q = M3 q := fun q h => upM_ne h
  generalize upM M3 (b + 2) (upd (M3 (b + 2)) (8 * S + 2) v) = M4 at *
  have w4 : M4 (b + 1) 0 = 8 := by rw [g4 _ (by omega)]; exact w3
  have u4 : M4 (b + 1) 2 = Int32.ofNat (S + 1) := by rw [g4 _ (by omega)]; exact u3
  have k4 := fun d => r_putS (RO := RO) (d := d) (M := M4) (c := 3) (x := 0) hb w4 u4 (by omega) (show S < S + 1 by omega) (by omega)
  have e5 : upM M4 (b + 2) (upd (M4 (b + 2)) (8 * S + 3) 0) (b + 2) = upd (M4 (b + 2)) (8 * S + 3) 0 := upM_at
  have g5 : ∀ q, q ≠ b + 2 → upM M4 (b + 2) (upd (M4 (b + 2)) (8 * S + 3) 0) q = M4 q := fun q h => upM_ne h
  generalize upM M4 (b + 2) (upd (M4 (b + 2)) (8 * S + 3) 0) = M5 at *
  have w5 : M5 (b + 1) 0 = 8 := by rw [g5 _ (by omega)]; exact w4
  have u5 : M5 (b + 1) 2 = Int32.ofNat (S + 1) := by rw [g5 _ (by omega)]; exact u4
  have k5 := fun d => r_putS (RO := RO) (d := d) (M := M5) (c := 4) (x := -1) hb w5 u5 (by omega) (show S < S + 1 by omega) (by omega)
  have e6 : upM M5 (b + 2) (upd (M5 (b + 2)) (8 * S + 4) (-1)) (b + 2) = upd (M5 (b + 2)) (8 * S + 4) (-1) := upM_at
  have g6 : ∀ q, q ≠ b + 2 → upM M5 (b + 2) (upd (M5 (b + 2)) (8 * S + 4) (-1)) q = M5 q := fun q h => upM_ne h
  generalize upM M5 (b + 2) (upd (M5 (b + 2)) (8 * S + 4) (-1)) = M6 at *
  have w6 : M6 (b + 1) 0 = 8 := by rw [g6 _ (by omega)]; exact w5
  have u6 : M6 (b + 1) 2 = Int32.ofNat (S + 1) := by rw [g6 _ (by omega)]; exact u5
  have k6 := fun d => r_putS (RO := RO) (d := d) (M := M6) (c := 5) (x := -1) hb w6 u6 (by omega) (show S < S + 1 by omega) (by omega)
  have e7 : upM M6 (b + 2) (upd (M6 (b + 2)) (8 * S + 5) (-1)) (b + 2) = upd (M6 (b + 2)) (8 * S + 5) (-1) := upM_at
  have g7 : ∀ q, q ≠ b + 2 → upM M6 (b + 2) (upd (M6 (b + 2)) (8 * S + 5) (-1)) q = M6 q := fun q h => upM_ne h
  generalize upM M6 (b + 2) (upd (M6 (b + 2)) (8 * S + 5) (-1)) = M7 at *
  have w7 : M7 (b + 1) 0 = 8 := by rw [g7 _ (by omega)]; exact w6
  have u7 : M7 (b + 1) 2 = Int32.ofNat (S + 1) := by rw [g7 _ (by omega)]; exact u6
  have k7 := fun d => r_putS (RO := RO) (d := d) (M := M7) (c := 6) (x := -1) hb w7 u7 (by omega) (show S < S + 1 by omega) (by omega)
  have e8 : upM M7 (b + 2) (upd (M7 (b + 2)) (8 * S + 6) (-1)) (b + 2) = upd (M7 (b + 2)) (8 * S + 6) (-1) := upM_at
  have g8 : ∀ q, q ≠ b + 2 → upM M7 (b + 2) (upd (M7 (b + 2)) (8 * S + 6) (-1)) q = M7 q := fun q h => upM_ne h
  generalize upM M7 (b + 2) (upd (M7 (b + 2)) (8 * S + 6) (-1)) = M8 at *
  have w8 : M8 (b + 1) 0 = 8 := by rw [g8 _ (by omega)]; exact w7
  have u8 : M8 (b + 1) 2 = Int32.ofNat (S + 1) := by rw [g8 _ (by omega)]; exact u7
  have k8 := fun d => r_putS (RO := RO) (d := d) (M := M8) (c := 7) (x := v) hb w8 u8 (by omega) (show S < S + 1 by omega) (by omega)
  have e9 : upM M8 (b + 2) (upd (M8 (b + 2)) (8 * S + 7) v) (b + 2) = upd (M8 (b + 2)) (8 * S + 7) v := upM_at
  have g9 : ∀ q, q ≠ b + 2 → upM M8 (b + 2) (upd (M8 (b + 2)) (8 * S + 7) v) q = M8 q := fun q h => upM_ne h
  generalize upM M8 (b + 2) (upd (M8 (b + 2)) (8 * S + 7) v) = M9 at *
  have w9 : M9 (b + 1) 0 = 8 := by rw [g9 _ (by omega)]; exact w8
  have u9 : M9 (b + 1) 2 = Int32.ofNat (S + 1) := by rw [g9 _ (by omega)]; exact u8
  have v0 : ∀ j, M9 (b + 2) j = upd (upd (upd (upd (upd (upd (upd (upd (M1 (b + 2)) (8 * S + 0) kd) (8 * S + 1) w) (8 * S + 2) v) (8 * S + 3) 0) (8 * S + 4) (-1)) (8 * S + 5) (-1)) (8 * S + 6) (-1)) (8 * S + 7) v j := fun j => by rw [e9, e8, e7, e6, e5, e4, e3, e2]
  have hq := hQ M9 (TrN_newS hT hS (fun q h1 h2 => by rw [g9 q h2, g8 q h2, g7 q h2, g6 q h2, g5 q h2, g4 q h2, g3 q h2, g2 q h2, f1 q h1 h2]) w9 u9 (fun j hj => by
    rw [v0, upd_ne (by omega), upd_ne (by omega), upd_ne (by omega), upd_ne (by omega), upd_ne (by omega), upd_ne (by omega), upd_ne (by omega), upd_ne (by omega), l1 j hj]) (fun c hc => by
    obtain ⟨y0, y1, y2, y3, y4, y5, y6, y7⟩ := bringsN_c (N := N) (k := S) (kd := kd) (w := w) (v := v)
    rw [v0]
    rcases (show c = 0 ∨ c = 1 ∨ c = 2 ∨ c = 3 ∨ c = 4 ∨ c = 5 ∨ c = 6 ∨ c = 7 by omega) with rfl | rfl | rfl | rfl | rfl | rfl | rfl | rfl
    · rw [upd_ne (by omega), upd_ne (by omega), upd_ne (by omega), upd_ne (by omega), upd_ne (by omega), upd_ne (by omega), upd_ne (by omega), upd_at]; exact y0.symm
    · rw [upd_ne (by omega), upd_ne (by omega), upd_ne (by omega), upd_ne (by omega), upd_ne (by omega), upd_ne (by omega), upd_at]; exact y1.symm
    · rw [upd_ne (by omega), upd_ne (by omega), upd_ne (by omega), upd_ne (by omega), upd_ne (by omega), upd_at]; exact y2.symm
    · rw [upd_ne (by omega), upd_ne (by omega), upd_ne (by omega), upd_ne (by omega), upd_at]; exact y3.symm
    · rw [upd_ne (by omega), upd_ne (by omega), upd_ne (by omega), upd_at]; exact y4.symm
    · rw [upd_ne (by omega), upd_ne (by omega), upd_at]; exact y5.symm
    · rw [upd_ne (by omega), upd_at]; exact y6.symm
    · rw [upd_at]; exact y7.symm) (bringsN_4 hT.1.2.1) (fun j h4 hj => bringsN_lo h4 (by omega))) (fun q hq => by
    rw [g9 q (by omega), g8 q (by omega), g7 q (by omega), g6 q (by omega), g5 q (by omega), g4 q (by omega), g3 q (by omega), g2 q (by omega), f1 q (by omega) (by omega)])
  clear hQ hT
  rcases hb with ⟨rfl, sb, ext, rfl⟩ | ⟨rfl, sb, ext, rfl⟩ | ⟨rfl, c9, r9, rfl⟩
  all_goals
    refine EvP.wp [] 60 rfl ?_
    refine (n0 _).use ?_
    refine (k1 _).use ?_
    refine (k2 _).use ?_
    refine (k3 _).use ?_
    refine (k4 _).use ?_
    refine (k5 _).use ?_
    refine (k6 _).use ?_
    refine (k7 _).use ?_
    refine (k8 _).use ?_
    exact hq
theorem c_newStage {kd n : Int32} (hb : bas GG b) (hT : TrN M b N m S t) (ht : t < 8) (hQ : ∀ M', TrN M' b (leadsN N t kd n) m S (t + 1) → FrB b M M' → Q (.inl (some (.int (Int32.ofNat t)))) GG M' 0 0) : EvP RO (d + 3) 62 [.ref b, .int kd, .int n] GG M Q := by
  have c1 := hT.2.2.2.2.1.1
  have c2 := hT.2.2.2.2.1.2
  have n0 := fun d => c_newRowT (RO := RO) (d := d) hb c1 c2 ht
  have w1 : newM M (b + 5) t 2 (b + 5) 0 = 2 := newM_w c1
  have u1 : newM M (b + 5) t 2 (b + 5) 2 = Int32.ofNat (t + 1) := newM_u
  have l1 : ∀ j, j < 2 * t → newM M (b + 5) t 2 (b + 6) j = M (b + 6) j := fun j hj => newM_lo hj
  have f1 : ∀ q, q ≠ b + 5 → q ≠ b + 6 → newM M (b + 5) t 2 q = M q := fun q h1 h2 => newM_far h1 h2
  generalize newM M (b + 5) t 2 = M1 at *
  have k1 := fun d => r_putT (RO := RO) (d := d) (c := 0) (x := kd) hb w1 u1 (by omega) (show t < t + 1 by omega) (by omega)
  have e2 : upM M1 (b + 6) (upd (M1 (b + 6)) (2 * t + 0) kd) (b + 6) = upd (M1 (b + 6)) (2 * t + 0) kd := upM_at
  have g2 : ∀ q, q ≠ b + 6 → upM M1 (b + 6) (upd (M1 (b + 6)) (2 * t + 0) kd) q = M1 q := fun q h => upM_ne h
  generalize upM M1 (b + 6) (upd (M1 (b + 6)) (2 * t + 0) kd) = M2 at *
  have k2 := fun d => r_putT (RO := RO) (d := d) (M := M2) (c := 1) (x := n) hb (by rw [g2 _ (by omega)]; exact w1) (u := t + 1) (by rw [g2 _ (by omega)]; exact u1) (by omega) (show t < t + 1 by omega) (by omega)
  have e3 : upM M2 (b + 6) (upd (M2 (b + 6)) (2 * t + 1) n) (b + 6) = upd (M2 (b + 6)) (2 * t + 1) n := upM_at
  have g3 : ∀ q, q ≠ b + 6 → upM M2 (b + 6) (upd (M2 (b + 6)) (2 * t + 1) n) q = M2 q := fun q h => upM_ne h
  generalize upM M2 (b + 6) (upd (M2 (b + 6)) (2 * t + 1) n) = M3 at *
  have v0 : ∀ j, M3 (b + 6) j = upd (upd (M1 (b + 6)) (2 * t + 0) kd) (2 * t + 1) n j := fun j => by rw [e3, e2]
  have hq := hQ M3 (TrN_newT hT ht (fun q h1 h2 => by rw [g3 q h2, g2 q h2, f1 q h1 h2]) (by rw [g3 _ (by omega), g2 _ (by omega)]; exact w1) (by rw [g3 _ (by omega), g2 _ (by omega)]; exact u1) (fun j hj => by
    rw [v0, upd_ne (by omega), upd_ne (by omega), l1 j hj]) (fun c hc => by
    obtain ⟨y0, y1⟩ := leadsN_c (N := N) (k := t) (kd := kd) (n := n)
    rw [v0]
    rcases (show c = 0 ∨ c = 1 by omega) with rfl | rfl
    · rw [upd_ne (by omega), upd_at]; exact y0.symm
    · rw [upd_at]; exact y1.symm) (leadsN_5 hT.1.2.2.1) (fun j h5 hj => leadsN_lo h5 (by omega))) (fun q hq => by
    rw [g3 q (by omega), g2 q (by omega), f1 q (by omega) (by omega)])
  clear hQ hT
  rcases hb with ⟨rfl, sb, ext, rfl⟩ | ⟨rfl, sb, ext, rfl⟩ | ⟨rfl, c9, r9, rfl⟩
  all_goals
    refine EvP.wp [] 60 rfl ?_
    refine (n0 _).use ?_
    refine (k1 _).use ?_
    refine (k2 _).use ?_
    exact hq
end CLS
