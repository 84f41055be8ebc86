/-! the class's new rows -/
def zF (O : Nat → Int32) (a n : Nat) : Nat → Int32 := fun j => if a ≤ j ∧ j < a + n then 0 else O j
theorem zF_0 {O : Nat → Int32} {a : Nat} : zF O a 0 = O := by
  funext j
  rw [zF, if_neg (by omega)]
theorem zF_s {O : Nat → Int32} {a n : Nat} : upd (zF O a n) (a + n) 0 = zF O a (n + 1) := by
  funext j
  by_cases h : j = a + n
  · subst h
    rw [upd_at, zF, if_pos (by omega)]
  · rw [upd_ne h, zF, zF]
    by_cases h2 : a ≤ j ∧ j < a + n
    · rw [if_pos h2, if_pos (by omega)]
    · rw [if_neg h2, if_neg (by omega)]
theorem upM_id {M : mM} {q : Nat} {f : Nat → Int32} (h : M q = f) : upM M q f = M := by
  subst h
  exact upM_self
def newM (M : mM) (q u w : Nat) : mM := upM (upM M q (upd (M q) 2 (Int32.ofNat (u + 1)))) (q + 1) (zF (M (q + 1)) (w * u) w)
section CLS
variable {RO : List mE} {d : Nat} {GG : List sh} {M : mM} {Q : mQ} {b m S t : Nat} {N : Nat → Int32}
theorem r_putS {i c u : Nat} {x : Int32} (hb : bas GG b) (c1 : M (b + 1) 0 = 8) (c2 : M (b + 1) 2 = Int32.ofNat u) (hu : u ≤ 16) (hi : i < u) (hc : c < 8) : EvR RO (d + 1) 38 [.ref (b + 1), .int (Int32.ofNat i), .int (Int32.ofNat c), .int x] GG M none (upM M (b + 2) (upd (M (b + 2)) (8 * i + c) x)) := by
  have hx : Int32.ofNat i * M (b + 1) 0 + Int32.ofNat c = Int32.ofNat (8 * i + c) := by
    rw [c1, show (8 : Int32) = Int32.ofNat 8 from rfl, i_mul, i_add, Nat.mul_comm]
  rcases hb with ⟨rfl, sb, ext, rfl⟩ | ⟨rfl, sb, ext, rfl⟩ | ⟨rfl, c9, r9, rfl⟩
  all_goals
    refine EvP.wp [] 40 rfl ?_
    refine nn_if rfl (by omega) ?_
    refine lt_if rfl c2 (by omega) (by omega) (fun _ => ?_) (fun h => absurd h (by omega))
    refine nn_if rfl (by omega) ?_
    refine lt_if (b := 8) rfl c1 (by omega) (by omega) (fun _ => ?_) (fun h => absurd h (by omega))
    refine lt_if (b := 128) hx rfl (by omega) (by omega) (fun _ => ?_) (fun h => absurd h (by omega))
    refine ⟨8 * i + c, hx, by omega, ?_⟩
    exact ⟨rfl, rfl, rfl, rfl, rfl⟩
theorem c_isFullS {u : Nat} (hb : bas GG b) (c1 : M (b + 1) 0 = 8) (c2 : M (b + 1) 2 = Int32.ofNat u) (hu : u ≤ 16) : EvR RO (d + 1) 36 [.ref (b + 1)] GG M (some (.int (zb (decide (16 ≤ u))))) M := by
  have hx : (M (b + 1) 2 + 1) * M (b + 1) 0 = Int32.ofNat ((u + 1) * 8) := by
    rw [c1, c2, show (8 : Int32) = Int32.ofNat 8 from rfl, i_inc, i_mul]
  rcases hb with ⟨rfl, sb, ext, rfl⟩ | ⟨rfl, sb, ext, rfl⟩ | ⟨rfl, c9, r9, rfl⟩
  all_goals
    refine EvP.wp [] 40 rfl ?_
    refine gt_if (b := 128) hx rfl (by omega) (by omega) (fun h => ?_) (fun h => ?_)
    · refine ⟨rfl, ?_, rfl, rfl, rfl, rfl⟩
      rw [decide_eq_true (by omega)]; rfl
    · refine ⟨rfl, ?_, rfl, rfl, rfl, rfl⟩
      rw [decide_eq_false (by omega)]; rfl
theorem c_newRowS {u : Nat} (hb : bas GG b) (c1 : M (b + 1) 0 = 8) (c2 : M (b + 1) 2 = Int32.ofNat u) (hu : u < 16) : EvR RO (d + 2) 37 [.ref (b + 1)] GG M (some (.int (Int32.ofNat u))) (newM M (b + 1) u 8) := by
  have hf := fun d => c_isFullS (RO := RO) (d := d) hb c1 c2 (by omega)
  simp only [show decide (16 ≤ u) = false from decide_eq_false (by omega)] at hf
  have put : ∀ d c, c < 8 → EvR RO (d + 1) 38 [.ref (b + 1), .int (Int32.ofNat u), .int (Int32.ofNat c), .int 0] GG (upM (upM M (b + 1) (upd (M (b + 1)) 2 (Int32.ofNat (u + 1)))) (b + 2) (zF (M (b + 2)) (8 * u) c)) none (upM (upM M (b + 1) (upd (M (b + 1)) 2 (Int32.ofNat (u + 1)))) (b + 2) (zF (M (b + 2)) (8 * u) (c + 1))) := by
    intro d c hc
    have h := r_putS (RO := RO) (d := d) (M := upM (upM M (b + 1) (upd (M (b + 1)) 2 (Int32.ofNat (u + 1)))) (b + 2) (zF (M (b + 2)) (8 * u) c)) (x := 0) hb (u := u + 1) (i := u) (c := c) (by rw [upM_ne (by omega), upM_at, upd_ne (by decide)]; exact c1) (by rw [upM_ne (by omega), upM_at, upd_at]) (by omega) (by omega) hc
    rw [upM_at, upM_upM, zF_s] at h
    exact h
  refine EvR.of (fun Q hQ => ?_)
  have loop := up_ind (S := 8) (H := fun c => GoP RO (d + 1) 37 [.ref (b + 1), .int (Int32.ofNat u), .int (Int32.ofNat c)] [] GG (upM (upM M (b + 1) (upd (M (b + 1)) 2 (Int32.ofNat (u + 1)))) (b + 2) (zF (M (b + 2)) (8 * u) c)) 26 0 0 Q) ?_ (fun c hc ih => ?_) 0 (by omega)
  · rw [zF_0, upM_id (upM_ne (by omega))] at loop
    rw [← i_inc, ← c2] at loop
    rcases hb with ⟨rfl, sb, ext, rfl⟩ | ⟨rfl, sb, ext, rfl⟩ | ⟨rfl, c9, r9, rfl⟩
    all_goals
      refine EvP.wp [26] 40 rfl ?_
      refine (hf _).use ?_
      refine ⟨fun _ => ?_, fun h => absurd rfl h⟩
      exact loop
  · have h8 : (upM (upM M (b + 1) (upd (M (b + 1)) 2 (Int32.ofNat (u + 1)))) (b + 2) (zF (M (b + 2)) (8 * u) 8)) (b + 1) 0 = 8 := by rw [upM_ne (by omega), upM_at, upd_ne (by decide)]; exact c1
    rcases hb with ⟨rfl, sb, ext, rfl⟩ | ⟨rfl, sb, ext, rfl⟩ | ⟨rfl, c9, r9, rfl⟩
    all_goals
      refine wp_sound [26] 60 _ _ _ _ _ _ _ ?_
      refine lt_if (a := 8) (b := 8) rfl h8 (by omega) (by omega) (fun h => absurd h (by omega)) (fun _ => ?_)
      exact hQ
  · have h8 : (upM (upM M (b + 1) (upd (M (b + 1)) 2 (Int32.ofNat (u + 1)))) (b + 2) (zF (M (b + 2)) (8 * u) c)) (b + 1) 0 = 8 := by rw [upM_ne (by omega), upM_at, upd_ne (by decide)]; exact c1
    have hp := fun d => put d c hc
    rcases hb with ⟨rfl, sb, ext, rfl⟩ | ⟨rfl, sb, ext, rfl⟩ | ⟨rfl, c9, r9, rfl⟩
    all_goals
      refine wp_sound [26] 60 _ _ _ _ _ _ _ ?_
      refine lt_if (a := c) (b := 8) rfl h8 (by omega) (by omega) (fun _ => ?_) (fun h => absurd h (by omega))
      refine (hp _).use ?_
      refine GoP.eq2 ih (by rw [i_inc]) rfl
theorem r_putM {i c u : Nat} {x : Int32} (hb : bas GG b) (c1 : M (b + 3) 0 = 9) (c2 : M (b + 3) 2 = Int32.ofNat u) (hu : u ≤ 6) (hi : i < u) (hc : c < 9) : EvR RO (d + 1) 38 [.ref (b + 3), .int (Int32.ofNat i), .int (Int32.ofNat c), .int x] GG M none (upM M (b + 4) (upd (M (b + 4)) (9 * i + c) x)) := by
  have hx : Int32.ofNat i * M (b + 3) 0 + Int32.ofNat c = Int32.ofNat (9 * i + c) := by
    rw [c1, show (9 : Int32) = Int32.ofNat 9 from rfl, i_mul, i_add, Nat.mul_comm]
  rcases hb with ⟨rfl, sb, ext, rfl⟩ | ⟨rfl, sb, ext, rfl⟩ | ⟨rfl, c9, r9, rfl⟩
  all_goals
    refine EvP.wp [] 40 rfl ?_
    refine nn_if rfl (by omega) ?_
    refine lt_if rfl c2 (by omega) (by omega) (fun _ => ?_) (fun h => absurd h (by omega))
    refine nn_if rfl (by omega) ?_
    refine lt_if (b := 9) rfl c1 (by omega) (by omega) (fun _ => ?_) (fun h => absurd h (by omega))
    refine lt_if (b := 54) hx rfl (by omega) (by omega) (fun _ => ?_) (fun h => absurd h (by omega))
    refine ⟨9 * i + c, hx, by omega, ?_⟩
    exact ⟨rfl, rfl, rfl, rfl, rfl⟩
theorem c_isFullM {u : Nat} (hb : bas GG b) (c1 : M (b + 3) 0 = 9) (c2 : M (b + 3) 2 = Int32.ofNat u) (hu : u ≤ 6) : EvR RO (d + 1) 36 [.ref (b + 3)] GG M (some (.int (zb (decide (6 ≤ u))))) M := by
  have hx : (M (b + 3) 2 + 1) * M (b + 3) 0 = Int32.ofNat ((u + 1) * 9) := by
    rw [c1, c2, show (9 : Int32) = Int32.ofNat 9 from rfl, i_inc, i_mul]
  rcases hb with ⟨rfl, sb, ext, rfl⟩ | ⟨rfl, sb, ext, rfl⟩ | ⟨rfl, c9, r9, rfl⟩
  all_goals
    refine EvP.wp [] 40 rfl ?_
    refine gt_if (b := 54) hx rfl (by omega) (by omega) (fun h => ?_) (fun h => ?_)
    · refine ⟨rfl, ?_, rfl, rfl, rfl, rfl⟩
      rw [decide_eq_true (by omega)]; rfl
    · refine ⟨rfl, ?_, rfl, rfl, rfl, rfl⟩
      rw [decide_eq_false (by omega)]; rfl
theorem c_newRowM {u : Nat} (hb : bas GG b) (c1 : M (b + 3) 0 = 9) (c2 : M (b + 3) 2 = Int32.ofNat u) (hu : u < 6) : EvR RO (d + 2) 37 [.ref (b + 3)] GG M (some (.int (Int32.ofNat u))) (newM M (b + 3) u 9) := by
  have hf := fun d => c_isFullM (RO := RO) (d := d) hb c1 c2 (by omega)
  simp only [show decide (6 ≤ u) = false from decide_eq_false (by omega)] at hf
  have put : ∀ d c, c < 9 → EvR RO (d + 1) 38 [.ref (b + 3), .int (Int32.ofNat u), .int (Int32.ofNat c), .int 0] GG (upM (upM M (b + 3) (upd (M (b + 3)) 2 (Int32.ofNat (u + 1)))) (b + 4) (zF (M (b + 4)) (9 * u) c)) none (upM (upM M (b + 3) (upd (M (b + 3)) 2 (Int32.ofNat (u + 1)))) (b + 4) (zF (M (b + 4)) (9 * u) (c + 1))) := by
    intro d c hc
    have h := r_putM (RO := RO) (d := d) (M := upM (upM M (b + 3) (upd (M (b + 3)) 2 (Int32.ofNat (u + 1)))) (b + 4) (zF (M (b + 4)) (9 * u) c)) (x := 0) hb (u := u + 1) (i := u) (c := c) (by rw [upM_ne (by omega), upM_at, upd_ne (by decide)]; exact c1) (by rw [upM_ne (by omega), upM_at, upd_at]) (by omega) (by omega) hc
    rw [upM_at, upM_upM, zF_s] at h
    exact h
  refine EvR.of (fun Q hQ => ?_)
  have loop := up_ind (S := 9) (H := fun c => GoP RO (d + 1) 37 [.ref (b + 3), .int (Int32.ofNat u), .int (Int32.ofNat c)] [] GG (upM (upM M (b + 3) (upd (M (b + 3)) 2 (Int32.ofNat (u + 1)))) (b + 4) (zF (M (b + 4)) (9 * u) c)) 26 0 0 Q) ?_ (fun c hc ih => ?_) 0 (by omega)
  · rw [zF_0, upM_id (upM_ne (by omega))] at loop
    rw [← i_inc, ← c2] at loop
    rcases hb with ⟨rfl, sb, ext, rfl⟩ | ⟨rfl, sb, ext, rfl⟩ | ⟨rfl, c9, r9, rfl⟩
    all_goals
      refine EvP.wp [26] 40 rfl ?_
      refine (hf _).use ?_
      refine ⟨fun _ => ?_, fun h => absurd rfl h⟩
      exact loop
  · have h8 : (upM (upM M (b + 3) (upd (M (b + 3)) 2 (Int32.ofNat (u + 1)))) (b + 4) (zF (M (b + 4)) (9 * u) 9)) (b + 3) 0 = 9 := by rw [upM_ne (by omega), upM_at, upd_ne (by decide)]; exact c1
    rcases hb with ⟨rfl, sb, ext, rfl⟩ | ⟨rfl, sb, ext, rfl⟩ | ⟨rfl, c9, r9, rfl⟩
    all_goals
      refine wp_sound [26] 60 _ _ _ _ _ _ _ ?_
      refine lt_if (a := 9) (b := 9) rfl h8 (by omega) (by omega) (fun h => absurd h (by omega)) (fun _ => ?_)
      exact hQ
  · have h8 : (upM (upM M (b + 3) (upd (M (b + 3)) 2 (Int32.ofNat (u + 1)))) (b + 4) (zF (M (b + 4)) (9 * u) c)) (b + 3) 0 = 9 := by rw [upM_ne (by omega), upM_at, upd_ne (by decide)]; exact c1
    have hp := fun d => put d c hc
    rcases hb with ⟨rfl, sb, ext, rfl⟩ | ⟨rfl, sb, ext, rfl⟩ | ⟨rfl, c9, r9, rfl⟩
    all_goals
      refine wp_sound [26] 60 _ _ _ _ _ _ _ ?_
      refine lt_if (a := c) (b := 9) rfl h8 (by omega) (by omega) (fun _ => ?_) (fun h => absurd h (by omega))
      refine (hp _).use ?_
      refine GoP.eq2 ih (by rw [i_inc]) rfl
theorem r_putT {i c u : Nat} {x : Int32} (hb : bas GG b) (c1 : M (b + 5) 0 = 2) (c2 : M (b + 5) 2 = Int32.ofNat u) (hu : u ≤ 8) (hi : i < u) (hc : c < 2) : EvR RO (d + 1) 38 [.ref (b + 5), .int (Int32.ofNat i), .int (Int32.ofNat c), .int x] GG M none (upM M (b + 6) (upd (M (b + 6)) (2 * i + c) x)) := by
  have hx : Int32.ofNat i * M (b + 5) 0 + Int32.ofNat c = Int32.ofNat (2 * i + c) := by
    rw [c1, show (2 : Int32) = Int32.ofNat 2 from rfl, i_mul, i_add, Nat.mul_comm]
  rcases hb with ⟨rfl, sb, ext, rfl⟩ | ⟨rfl, sb, ext, rfl⟩ | ⟨rfl, c9, r9, rfl⟩
  all_goals
    refine EvP.wp [] 40 rfl ?_
    refine nn_if rfl (by omega) ?_
    refine lt_if rfl c2 (by omega) (by omega) (fun _ => ?_) (fun h => absurd h (by omega))
    refine nn_if rfl (by omega) ?_
    refine lt_if (b := 2) rfl c1 (by omega) (by omega) (fun _ => ?_) (fun h => absurd h (by omega))
    refine lt_if (b := 16) hx rfl (by omega) (by omega) (fun _ => ?_) (fun h => absurd h (by omega))
    refine ⟨2 * i + c, hx, by omega, ?_⟩
    exact ⟨rfl, rfl, rfl, rfl, rfl⟩
theorem c_isFullT {u : Nat} (hb : bas GG b) (c1 : M (b + 5) 0 = 2) (c2 : M (b + 5) 2 = Int32.ofNat u) (hu : u ≤ 8) : EvR RO (d + 1) 36 [.ref (b + 5)] GG M (some (.int (zb (decide (8 ≤ u))))) M := by
  have hx : (M (b + 5) 2 + 1) * M (b + 5) 0 = Int32.ofNat ((u + 1) * 2) := by
    rw [c1, c2, show (2 : Int32) = Int32.ofNat 2 from rfl, i_inc, i_mul]
  rcases hb with ⟨rfl, sb, ext, rfl⟩ | ⟨rfl, sb, ext, rfl⟩ | ⟨rfl, c9, r9, rfl⟩
  all_goals
    refine EvP.wp [] 40 rfl ?_
    refine gt_if (b := 16) hx rfl (by omega) (by omega) (fun h => ?_) (fun h => ?_)
    · refine ⟨rfl, ?_, rfl, rfl, rfl, rfl⟩
      rw [decide_eq_true (by omega)]; rfl
    · refine ⟨rfl, ?_, rfl, rfl, rfl, rfl⟩
      rw [decide_eq_false (by omega)]; rfl
theorem c_newRowT {u : Nat} (hb : bas GG b) (c1 : M (b + 5) 0 = 2) (c2 : M (b + 5) 2 = Int32.ofNat u) (hu : u < 8) : EvR RO (d + 2) 37 [.ref (b + 5)] GG M (some (.int (Int32.ofNat u))) (newM M (b + 5) u 2) := by
  have hf := fun d => c_isFullT (RO := RO) (d := d) hb c1 c2 (by omega)
  simp only [show decide (8 ≤ u) = false from decide_eq_false (by omega)] at hf
  have put : ∀ d c, c < 2 → EvR RO (d + 1) 38 [.ref (b + 5), .int (Int32.ofNat u), .int (Int32.ofNat c), .int 0] GG (upM (upM M (b + 5) (upd (M (b + 5)) 2 (Int32.ofNat (u + 1)))) (b + 6) (zF (M (b + 6)) (2 * u) c)) none (upM (upM M (b + 5) (upd (M (b + 5)) 2 (Int32.ofNat (u + 1)))) (b + 6) (zF (M (b + 6)) (2 * u) (c + 1))) := by
    intro d c hc
    have h := r_putT (RO := RO) (d := d) (M := upM (upM M (b + 5) (upd (M (b + 5)) 2 (Int32.ofNat (u + 1)))) (b + 6) (zF (M (b + 6)) (2 * u) c)) (x := 0) hb (u := u + 1) (i := u) (c := c) (by rw [upM_ne (by omega), upM_at, upd_ne (by decide)]; exact c1) (by rw [upM_ne (by omega), upM_at, upd_at]) (by omega) (by omega) hc
    rw [upM_at, upM_upM, zF_s] at h
    exact h
  refine EvR.of (fun Q hQ => ?_)
  have loop := up_ind (S := 2) (H := fun c => GoP RO (d + 1) 37 [.ref (b + 5), .int (Int32.ofNat u), .int (Int32.ofNat c)] [] GG (upM (upM M (b + 5) (upd (M (b + 5)) 2 (Int32.ofNat (u + 1)))) (b + 6) (zF (M (b + 6)) (2 * u) c)) 26 0 0 Q) ?_ (fun c hc ih => ?_) 0 (by omega)
  · rw [zF_0, upM_id (upM_ne (by omega))] at loop
    rw [← i_inc, ← c2] at loop
    rcases hb with ⟨rfl, sb, ext, rfl⟩ | ⟨rfl, sb, ext, rfl⟩ | ⟨rfl, c9, r9, rfl⟩
    all_goals
      refine EvP.wp [26] 40 rfl ?_
      refine (hf _).use ?_
      refine ⟨fun _ => ?_, fun h => absurd rfl h⟩
      exact loop
  · have h8 : (upM (upM M (b + 5) (upd (M (b + 5)) 2 (Int32.ofNat (u + 1)))) (b + 6) (zF (M (b + 6)) (2 * u) 2)) (b + 5) 0 = 2 := by rw [upM_ne (by omega), upM_at, upd_ne (by decide)]; exact c1
    rcases hb with ⟨rfl, sb, ext, rfl⟩ | ⟨rfl, sb, ext, rfl⟩ | ⟨rfl, c9, r9, rfl⟩
    all_goals
      refine wp_sound [26] 60 _ _ _ _ _ _ _ ?_
      refine lt_if (a := 2) (b := 2) rfl h8 (by omega) (by omega) (fun h => absurd h (by omega)) (fun _ => ?_)
      exact hQ
  · have h8 : (upM (upM M (b + 5) (upd (M (b + 5)) 2 (Int32.ofNat (u + 1)))) (b + 6) (zF (M (b + 6)) (2 * u) c)) (b + 5) 0 = 2 := by rw [upM_ne (by omega), upM_at, upd_ne (by decide)]; exact c1
    have hp := fun d => put d c hc
    rcases hb with ⟨rfl, sb, ext, rfl⟩ | ⟨rfl, sb, ext, rfl⟩ | ⟨rfl, c9, r9, rfl⟩
    all_goals
      refine wp_sound [26] 60 _ _ _ _ _ _ _ ?_
      refine lt_if (a := c) (b := 2) rfl h8 (by omega) (by omega) (fun _ => ?_) (fun h => absurd h (by omega))
      refine (hp _).use ?_
      refine GoP.eq2 ih (by rw [i_inc]) rfl
end CLS
