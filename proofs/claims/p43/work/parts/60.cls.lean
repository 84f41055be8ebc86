/-! the ring of earlier trains -/
def nxN (nx : Nat) : Nat := if nx + 1 < 10 then nx + 1 else 0
def laN (nx : Nat) : Nat := if 0 < nx then nx - 1 else 9
def hisM (M : mM) (nx c : Nat) : mM := upM (becM M (51 + 9 * nx) 12) 49 (upd (upd (M 49) 1 (Int32.ofNat (nxN nx))) 2 (Int32.ofNat (if 10 < c + 1 then 10 else c + 1)))
def bakM (M : mM) (nx c : Nat) : mM := upM (becM M 12 (51 + 9 * laN nx)) 49 (upd (upd (M 49) 1 (Int32.ofNat (laN nx))) 2 (Int32.ofNat (c - 1)))
theorem pair_r {nx : Nat} (h : nx < 10) : (51 + 9 * nx, 12) ∈ pairs ∧ (12, 51 + 9 * nx) ∈ pairs := by
  rcases (show nx = 0 ∨ nx = 1 ∨ nx = 2 ∨ nx = 3 ∨ nx = 4 ∨ nx = 5 ∨ nx = 6 ∨ nx = 7 ∨ nx = 8 ∨ nx = 9 by omega) with rfl | rfl | rfl | rfl | rfl | rfl | rfl | rfl | rfl | rfl <;> decide
section CLS
variable {RO : List mE} {d sb : Nat} {ext : List sh} {M : mM} {Q : mQ} {m S t : Nat} {N : Nat → Int32}
theorem c_forget : EvR RO (d + 1) 1 [.ref 49] (gW sb ext) M none (upM M 49 (upd (M 49) 2 0)) := by
  refine EvP.wp [] 60 rfl ?_
  exact ⟨rfl, rfl, rfl, rfl, rfl⟩
theorem c_remember {nx c : Nat} (hT : TrN M 12 N m S t) (hn : nx < 10) (hc : c ≤ 10) (e1 : M 49 1 = Int32.ofNat nx) (e2 : M 49 2 = Int32.ofNat c) (h1 : M (51 + 9 * nx + 1) 0 = 8) (h3 : M (51 + 9 * nx + 3) 0 = 9) (h5 : M (51 + 9 * nx + 5) 0 = 2) : EvR RO (d + 3) 3 [.ref 49, .ref 12] (gW sb ext) M none (hisM M nx c) := by
  have hb := fun d => c_become (RO := RO) (d := d) (sb := sb) (ext := ext) (pair_r hn).1 hT h1 h3 h5
  have hx : ∀ i, i < 10 → M 49 1 = Int32.ofNat i → M 49 1 + 1 = Int32.ofNat (i + 1) := fun i _ h => by rw [h, i_inc]
  have hs : (if (10 : Int32) < M 49 2 + 1 then (10 : Int32) else M 49 2 + 1) = Int32.ofNat (if 10 < c + 1 then 10 else c + 1) := by
    rw [e2, i_inc]
    by_cases h : 10 < c + 1
    · rw [if_pos h, if_pos (by rw [show (10 : Int32) = Int32.ofNat 10 from rfl, i_lt (by omega) (by omega)]; exact h)]; rfl
    · rw [if_neg h, if_neg (by rw [show (10 : Int32) = Int32.ofNat 10 from rfl, i_lt (by omega) (by omega)]; exact h)]
  unfold hisM
  rw [← hs]
  clear h1 h3 h5 hT hs e2
  rcases (show nx = 0 ∨ nx = 1 ∨ nx = 2 ∨ nx = 3 ∨ nx = 4 ∨ nx = 5 ∨ nx = 6 ∨ nx = 7 ∨ nx = 8 ∨ nx = 9 by omega) with rfl | rfl | rfl | rfl | rfl | rfl | rfl | rfl | rfl | rfl
  · have e9 := hx 0 (by omega) e1
    refine EvP.wp [] 60 rfl ?_
    refine nn_if e1 (by omega) ?_
    refine lt_if (b := 10) e1 rfl (by omega) (by omega) (fun _ => ?_) (fun h => absurd h (by omega))
    refine ⟨0, e1, by omega, ?_⟩
    refine ⟨0, e1, by omega, ?_⟩
    refine (hb _).use ?_
    refine lt_if (a := 1) (b := 10) e9 rfl (by omega) (by omega) (fun h => ?_) (fun h => ?_)
    · refine ⟨rfl, rfl, ?_, rfl, rfl⟩
      rw [show Int32.ofNat (nxN 0) = M 49 1 + 1 from e9.symm]; simp only [upM_at, upM_upM]; rfl
    · exact absurd h (by omega)
  · have e9 := hx 1 (by omega) e1
    refine EvP.wp [] 60 rfl ?_
    refine nn_if e1 (by omega) ?_
    refine lt_if (b := 10) e1 rfl (by omega) (by omega) (fun _ => ?_) (fun h => absurd h (by omega))
    refine ⟨1, e1, by omega, ?_⟩
    refine ⟨1, e1, by omega, ?_⟩
    refine (hb _).use ?_
    refine lt_if (a := 2) (b := 10) e9 rfl (by omega) (by omega) (fun h => ?_) (fun h => ?_)
    · refine ⟨rfl, rfl, ?_, rfl, rfl⟩
      rw [show Int32.ofNat (nxN 1) = M 49 1 + 1 from e9.symm]; simp only [upM_at, upM_upM]; rfl
    · exact absurd h (by omega)
  · have e9 := hx 2 (by omega) e1
    refine EvP.wp [] 60 rfl ?_
    refine nn_if e1 (by omega) ?_
    refine lt_if (b := 10) e1 rfl (by omega) (by omega) (fun _ => ?_) (fun h => absurd h (by omega))
    refine ⟨2, e1, by omega, ?_⟩
    refine ⟨2, e1, by omega, ?_⟩
    refine (hb _).use ?_
    refine lt_if (a := 3) (b := 10) e9 rfl (by omega) (by omega) (fun h => ?_) (fun h => ?_)
    · refine ⟨rfl, rfl, ?_, rfl, rfl⟩
      rw [show Int32.ofNat (nxN 2) = M 49 1 + 1 from e9.symm]; simp only [upM_at, upM_upM]; rfl
    · exact absurd h (by omega)
  · have e9 := hx 3 (by omega) e1
    refine EvP.wp [] 60 rfl ?_
    refine nn_if e1 (by omega) ?_
    refine lt_if (b := 10) e1 rfl (by omega) (by omega) (fun _ => ?_) (fun h => absurd h (by omega))
    refine ⟨3, e1, by omega, ?_⟩
    refine ⟨3, e1, by omega, ?_⟩
    refine (hb _).use ?_
    refine lt_if (a := 4) (b := 10) e9 rfl (by omega) (by omega) (fun h => ?_) (fun h => ?_)
    · refine ⟨rfl, rfl, ?_, rfl, rfl⟩
      rw [show Int32.ofNat (nxN 3) = M 49 1 + 1 from e9.symm]; simp only [upM_at, upM_upM]; rfl
    · exact absurd h (by omega)
  · have e9 := hx 4 (by omega) e1
    refine EvP.wp [] 60 rfl ?_
    refine nn_if e1 (by omega) ?_
    refine lt_if (b := 10) e1 rfl (by omega) (by omega) (fun _ => ?_) (fun h => absurd h (by omega))
    refine ⟨4, e1, by omega, ?_⟩
    refine ⟨4, e1, by omega, ?_⟩
    refine (hb _).use ?_
    refine lt_if (a := 5) (b := 10) e9 rfl (by omega) (by omega) (fun h => ?_) (fun h => ?_)
    · refine ⟨rfl, rfl, ?_, rfl, rfl⟩
      rw [show Int32.ofNat (nxN 4) = M 49 1 + 1 from e9.symm]; simp only [upM_at, upM_upM]; rfl
    · exact absurd h (by omega)
  · have e9 := hx 5 (by omega) e1
    refine EvP.wp [] 60 rfl ?_
    refine nn_if e1 (by omega) ?_
    refine lt_if (b := 10) e1 rfl (by omega) (by omega) (fun _ => ?_) (fun h => absurd h (by omega))
    refine ⟨5, e1, by omega, ?_⟩
    refine ⟨5, e1, by omega, ?_⟩
    refine (hb _).use ?_
    refine lt_if (a := 6) (b := 10) e9 rfl (by omega) (by omega) (fun h => ?_) (fun h => ?_)
    · refine ⟨rfl, rfl, ?_, rfl, rfl⟩
      rw [show Int32.ofNat (nxN 5) = M 49 1 + 1 from e9.symm]; simp only [upM_at, upM_upM]; rfl
    · exact absurd h (by omega)
  · have e9 := hx 6 (by omega) e1
    refine EvP.wp [] 60 rfl ?_
    refine nn_if e1 (by omega) ?_
    refine lt_if (b := 10) e1 rfl (by omega) (by omega) (fun _ => ?_) (fun h => absurd h (by omega))
    refine ⟨6, e1, by omega, ?_⟩
    refine ⟨6, e1, by omega, ?_⟩
    refine (hb _).use ?_
    refine lt_if (a := 7) (b := 10) e9 rfl (by omega) (by omega) (fun h => ?_) (fun h => ?_)
    · refine ⟨rfl, rfl, ?_, rfl, rfl⟩
      rw [show Int32.ofNat (nxN 6) = M 49 1 + 1 from e9.symm]; simp only [upM_at, upM_upM]; rfl
    · exact absurd h (by omega)
  · have e9 := hx 7 (by omega) e1
    refine EvP.wp [] 60 rfl ?_
    refine nn_if e1 (by omega) ?_
    refine lt_if (b := 10) e1 rfl (by omega) (by omega) (fun _ => ?_) (fun h => absurd h (by omega))
    refine ⟨7, e1, by omega, ?_⟩
    refine ⟨7, e1, by omega, ?_⟩
    refine (hb _).use ?_
    refine lt_if (a := 8) (b := 10) e9 rfl (by omega) (by omega) (fun h => ?_) (fun h => ?_)
    · refine ⟨rfl, rfl, ?_, rfl, rfl⟩
      rw [show Int32.ofNat (nxN 7) = M 49 1 + 1 from e9.symm]; simp only [upM_at, upM_upM]; rfl
    · exact absurd h (by omega)
  · have e9 := hx 8 (by omega) e1
    refine EvP.wp [] 60 rfl ?_
    refine nn_if e1 (by omega) ?_
    refine lt_if (b := 10) e1 rfl (by omega) (by omega) (fun _ => ?_) (fun h => absurd h (by omega))
    refine ⟨8, e1, by omega, ?_⟩
    refine ⟨8, e1, by omega, ?_⟩
    refine (hb _).use ?_
    refine lt_if (a := 9) (b := 10) e9 rfl (by omega) (by omega) (fun h => ?_) (fun h => ?_)
    · refine ⟨rfl, rfl, ?_, rfl, rfl⟩
      rw [show Int32.ofNat (nxN 8) = M 49 1 + 1 from e9.symm]; simp only [upM_at, upM_upM]; rfl
    · exact absurd h (by omega)
  · have e9 := hx 9 (by omega) e1
    refine EvP.wp [] 60 rfl ?_
    refine nn_if e1 (by omega) ?_
    refine lt_if (b := 10) e1 rfl (by omega) (by omega) (fun _ => ?_) (fun h => absurd h (by omega))
    refine ⟨9, e1, by omega, ?_⟩
    refine ⟨9, e1, by omega, ?_⟩
    refine (hb _).use ?_
    refine lt_if (a := 10) (b := 10) e9 rfl (by omega) (by omega) (fun h => ?_) (fun h => ?_)
    · exact absurd h (by omega)
    · refine ⟨rfl, rfl, ?_, rfl, rfl⟩
      simp only [upM_at, upM_upM]; rfl
end CLS
