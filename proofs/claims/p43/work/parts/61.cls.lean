/-! bringing back; may a trip begin; the best packed -/
section CLS
variable {RO : List mE} {d sb : Nat} {ext : List sh} {M : mM} {Q : mQ} {m S t : Nat} {N : Nat → Int32} {GG : List sh}
theorem c_bringBack {nx c : Nat} (hn : nx < 10) (hT : TrN M (51 + 9 * laN nx) N m S t) (hc : c ≤ 10) (hc0 : 0 < c) (e1 : M 49 1 = Int32.ofNat nx) (e2 : M 49 2 = Int32.ofNat c) (h1 : M 13 0 = 8) (h3 : M 15 0 = 9) (h5 : M 17 0 = 2) : EvR RO (d + 3) 0 [.ref 49, .ref 12] (gW sb ext) M none (bakM M nx c) := by
  have hl : laN nx < 10 := by unfold laN; split <;> omega
  have hb := fun d => c_become (RO := RO) (d := d) (sb := sb) (ext := ext) (pair_r hl).2 hT h1 h3 h5
  have hx : ∀ i, 0 < i → i < 10 → M 49 1 = Int32.ofNat i → M 49 1 - 1 = Int32.ofNat (i - 1) := fun i h0 _ h => by
    rw [h]; exact i_sub (a := i) (b := 1) (by omega)
  have hs : M 49 2 - 1 = Int32.ofNat (c - 1) := by rw [e2]; exact i_sub (a := c) (b := 1) (by omega)
  have hp : (0 : Int32) < M 49 2 := by rw [e2, show (0 : Int32) = Int32.ofNat 0 from rfl, i_lt (by omega) (by omega)]; exact hc0
  unfold bakM
  rw [← hs]
  clear h1 h3 h5 hT hs e2
  rcases (show nx = 0 ∨ nx = 1 ∨ nx = 2 ∨ nx = 3 ∨ nx = 4 ∨ nx = 5 ∨ nx = 6 ∨ nx = 7 ∨ nx = 8 ∨ nx = 9 by omega) with rfl | rfl | rfl | rfl | rfl | rfl | rfl | rfl | rfl | rfl
  · refine EvP.wp [] 60 rfl ?_
    refine lt_if (a := 0) (b := 0) rfl e1 (by omega) (by omega) (fun h => absurd h (by omega)) (fun _ => ?_)
    refine ⟨fun _ => ?_, fun h => absurd hp h⟩
    refine lt_if (a := 9) (b := 10) rfl rfl (by omega) (by omega) (fun _ => ?_) (fun h => absurd h (by omega))
    refine ⟨9, rfl, by omega, ?_⟩
    refine ⟨9, rfl, by omega, ?_⟩
    refine (hb _).use ?_
    refine ⟨rfl, rfl, ?_, rfl, rfl⟩
    simp only [upM_at, upM_upM]; rfl
  · have e9 := hx 1 (by omega) (by omega) e1
    refine EvP.wp [] 60 rfl ?_
    refine lt_if (a := 0) (b := 1) rfl e1 (by omega) (by omega) (fun _ => ?_) (fun h => absurd h (by omega))
    refine ⟨fun _ => ?_, fun h => absurd hp h⟩
    refine lt_if (a := 0) (b := 10) e9 rfl (by omega) (by omega) (fun _ => ?_) (fun h => absurd h (by omega))
    refine ⟨0, e9, by omega, ?_⟩
    refine ⟨0, e9, by omega, ?_⟩
    refine (hb _).use ?_
    refine ⟨rfl, rfl, ?_, rfl, rfl⟩
    rw [show Int32.ofNat (laN 1) = M 49 1 - 1 from e9.symm]; simp only [upM_at, upM_upM]; rfl
  · have e9 := hx 2 (by omega) (by omega) e1
    refine EvP.wp [] 60 rfl ?_
    refine lt_if (a := 0) (b := 2) rfl e1 (by omega) (by omega) (fun _ => ?_) (fun h => absurd h (by omega))
    refine ⟨fun _ => ?_, fun h => absurd hp h⟩
    refine lt_if (a := 1) (b := 10) e9 rfl (by omega) (by omega) (fun _ => ?_) (fun h => absurd h (by omega))
    refine ⟨1, e9, by omega, ?_⟩
    refine ⟨1, e9, by omega, ?_⟩
    refine (hb _).use ?_
    refine ⟨rfl, rfl, ?_, rfl, rfl⟩
    rw [show Int32.ofNat (laN 2) = M 49 1 - 1 from e9.symm]; simp only [upM_at, upM_upM]; rfl
  · have e9 := hx 3 (by omega) (by omega) e1
    refine EvP.wp [] 60 rfl ?_
    refine lt_if (a := 0) (b := 3) rfl e1 (by omega) (by omega) (fun _ => ?_) (fun h => absurd h (by omega))
    refine ⟨fun _ => ?_, fun h => absurd hp h⟩
    refine lt_if (a := 2) (b := 10) e9 rfl (by omega) (by omega) (fun _ => ?_) (fun h => absurd h (by omega))
    refine ⟨2, e9, by omega, ?_⟩
    refine ⟨2, e9, by omega, ?_⟩
    refine (hb _).use ?_
    refine ⟨rfl, rfl, ?_, rfl, rfl⟩
    rw [show Int32.ofNat (laN 3) = M 49 1 - 1 from e9.symm]; simp only [upM_at, upM_upM]; rfl
  · have e9 := hx 4 (by omega) (by omega) e1
    refine EvP.wp [] 60 rfl ?_
    refine lt_if (a := 0) (b := 4) rfl e1 (by omega) (by omega) (fun _ => ?_) (fun h => absurd h (by omega))
    refine ⟨fun _ => ?_, fun h => absurd hp h⟩
    refine lt_if (a := 3) (b := 10) e9 rfl (by omega) (by omega) (fun _ => ?_) (fun h => absurd h (by omega))
    refine ⟨3, e9, by omega, ?_⟩
    refine ⟨3, e9, by omega, ?_⟩
    refine (hb _).use ?_
    refine ⟨rfl, rfl, ?_, rfl, rfl⟩
    rw [show Int32.ofNat (laN 4) = M 49 1 - 1 from e9.symm]; simp only [upM_at, upM_upM]; rfl
  · have e9 := hx 5 (by omega) (by omega) e1
    refine EvP.wp [] 60 rfl ?_
    refine lt_if (a := 0) (b := 5) rfl e1 (by omega) (by omega) (fun _ => ?_) (fun h => absurd h (by omega))
    refine ⟨fun _ => ?_, fun h => absurd hp h⟩
    refine lt_if (a := 4) (b := 10) e9 rfl (by omega) (by omega) (fun _ => ?_) (fun h => absurd h (by omega))
    refine ⟨4, e9, by omega, ?_⟩
    refine ⟨4, e9, by omega, ?_⟩
    refine (hb _).use ?_
    refine ⟨rfl, rfl, ?_, rfl, rfl⟩
    rw [show Int32.ofNat (laN 5) = M 49 1 - 1 from e9.symm]; simp only [upM_at, upM_upM]; rfl
  · have e9 := hx 6 (by omega) (by omega) e1
    refine EvP.wp [] 60 rfl ?_
    refine lt_if (a := 0) (b := 6) rfl e1 (by omega) (by omega) (fun _ => ?_) (fun h => absurd h (by omega))
    refine ⟨fun _ => ?_, fun h => absurd hp h⟩
    refine lt_if (a := 5) (b := 10) e9 rfl (by omega) (by omega) (fun _ => ?_) (fun h => absurd h (by omega))
    refine ⟨5, e9, by omega, ?_⟩
    refine ⟨5, e9, by omega, ?_⟩
    refine (hb _).use ?_
    refine ⟨rfl, rfl, ?_, rfl, rfl⟩
    rw [show Int32.ofNat (laN 6) = M 49 1 - 1 from e9.symm]; simp only [upM_at, upM_upM]; rfl
  · have e9 := hx 7 (by omega) (by omega) e1
    refine EvP.wp [] 60 rfl ?_
    refine lt_if (a := 0) (b := 7) rfl e1 (by omega) (by omega) (fun _ => ?_) (fun h => absurd h (by omega))
    refine ⟨fun _ => ?_, fun h => absurd hp h⟩
    refine lt_if (a := 6) (b := 10) e9 rfl (by omega) (by omega) (fun _ => ?_) (fun h => absurd h (by omega))
    refine ⟨6, e9, by omega, ?_⟩
    refine ⟨6, e9, by omega, ?_⟩
    refine (hb _).use ?_
    refine ⟨rfl, rfl, ?_, rfl, rfl⟩
    rw [show Int32.ofNat (laN 7) = M 49 1 - 1 from e9.symm]; simp only [upM_at, upM_upM]; rfl
  · have e9 := hx 8 (by omega) (by omega) e1
    refine EvP.wp [] 60 rfl ?_
    refine lt_if (a := 0) (b := 8) rfl e1 (by omega) (by omega) (fun _ => ?_) (fun h => absurd h (by omega))
    refine ⟨fun _ => ?_, fun h => absurd hp h⟩
    refine lt_if (a := 7) (b := 10) e9 rfl (by omega) (by omega) (fun _ => ?_) (fun h => absurd h (by omega))
    refine ⟨7, e9, by omega, ?_⟩
    refine ⟨7, e9, by omega, ?_⟩
    refine (hb _).use ?_
    refine ⟨rfl, rfl, ?_, rfl, rfl⟩
    rw [show Int32.ofNat (laN 8) = M 49 1 - 1 from e9.symm]; simp only [upM_at, upM_upM]; rfl
  · have e9 := hx 9 (by omega) (by omega) e1
    refine EvP.wp [] 60 rfl ?_
    refine lt_if (a := 0) (b := 9) rfl e1 (by omega) (by omega) (fun _ => ?_) (fun h => absurd h (by omega))
    refine ⟨fun _ => ?_, fun h => absurd hp h⟩
    refine lt_if (a := 8) (b := 10) e9 rfl (by omega) (by omega) (fun _ => ?_) (fun h => absurd h (by omega))
    refine ⟨8, e9, by omega, ?_⟩
    refine ⟨8, e9, by omega, ?_⟩
    refine (hb _).use ?_
    refine ⟨rfl, rfl, ?_, rfl, rfl⟩
    rw [show Int32.ofNat (laN 9) = M 49 1 - 1 from e9.symm]; simp only [upM_at, upM_upM]; rfl
theorem bits_none {N : Nat → Int32} {m S : Nat} (hm : m ≤ 6) (hO : sacksOk N m S) : ∀ k, k ≤ S → packedI N k = none → bitsN N k = 0 := by
  intro k
  induction k with
  | zero => intro _ _; rfl
  | succ k ih =>
    intro hk hp
    have h1 := pick_none hp k (by omega)
    have h2 : packedI N k = none := by rw [packedI, pick_off h1] at hp; exact hp
    rw [bitsN, ih (by omega) h2, h1, cond_false, Nat.or_zero]
theorem bits_some {N : Nat → Int32} {a : Nat} : ∀ k, packedI N k = some a → ¬ bitsN N k = 0 := by
  intro k h
  obtain ⟨h1, h2⟩ := pick_lt h
  have key : ∀ n, a < n → ¬ bitsN N n = 0 := by
    intro n
    induction n with
    | zero => intro h; omega
    | succ n ih =>
      intro hn h0
      rw [bitsN, Nat.or_eq_zero_iff] at h0
      by_cases e : a = n
      · subst e
        have h2 : decide (N (63 + 8 * a + 3) = 1) = true := h2
        rw [h2] at h0
        exact absurd h0.2 (Nat.ne_of_gt (Nat.two_pow_pos _))
      · exact ih (by omega) h0.1
  exact key k h1
theorem c_reasonNotToGo {b : Nat} (hb : bas GG b) (hT : TrN M b N m S t) (hO : sacksOk N m S) : EvR RO (d + 4) 67 [.ref b] GG M (some (.int (whyN N m S))) M := by
  have hm := hT.1.2.2.2.1
  have hS := hT.1.2.2.2.2.1
  have h64 : bitsN N S < 64 := Nat.lt_of_lt_of_le (bitsN_lt hm hO S (Nat.le_refl _)) (Nat.pow_le_pow_right (by decide) hm)
  have hms := fun d => c_mulesWithSacks (RO := RO) (d := d) (GG := GG) hb hT hO
  have hfu := fun d => c_firstUnlevel (RO := RO) (d := d) (GG := GG) hb hT hO
  refine EvR.of (fun Q hQ => ?_)
  rw [whyN] at hQ
  have hz : Int32.ofNat (bitsN N S) = 0 → (packedI N S).isSome = false := fun h => by
    have h0 := i_inj (by omega) (by omega) (h.trans (show (0 : Int32) = Int32.ofNat 0 from rfl))
    cases hp : packedI N S with
    | none => rfl
    | some a => exact absurd h0 (bits_some S hp)
  have hnz : ¬ Int32.ofNat (bitsN N S) = 0 → (packedI N S).isSome = true := fun h => by
    cases hp : packedI N S with
    | some a => rfl
    | none => exact absurd (by rw [bits_none hm hO S (Nat.le_refl _) hp]; rfl) h
  rcases hb with ⟨rfl, sb, ext, rfl⟩ | ⟨rfl, sb, ext, rfl⟩ | ⟨rfl, c9, r9, rfl⟩
  all_goals
    refine EvP.wp [] 60 rfl ?_
    refine (hms _).use ?_
    refine ⟨fun h => ?_, fun h => ?_⟩
    · rw [hz h] at hQ
      exact hQ
    · rw [hnz h] at hQ
      refine (hfu _).use ?_
      cases hp : tiltedI N S m with
      | none =>
        rw [hp] at hQ
        exact ⟨fun _ => hQ, fun h => absurd rfl h⟩
      | some i =>
        rw [hp] at hQ
        have hi : i < m := (pick_lt hp).1
        exact ⟨fun h => absurd h (i_ne_m1 (by omega)), fun _ => hQ⟩
theorem c_mayTravel {b D : Nat} (hb : bas GG b) (hT : TrN M b N m S t) (hO : sacksOk N m S) (hD : N 6 = Int32.ofNat D) (hD9 : D ≤ 9999) : EvR RO (d + 5) 57 [.ref b] GG M (some (.int (zb (decide (whyN N m S = 0) && decide (D < 9999))))) M := by
  have hr := fun d => c_reasonNotToGo (RO := RO) (d := d) (GG := GG) hb hT hO
  have hd : M b 5 = Int32.ofNat D := hT.2.1.1.trans hD
  rcases hb with ⟨rfl, sb, ext, rfl⟩ | ⟨rfl, sb, ext, rfl⟩ | ⟨rfl, c9, r9, rfl⟩
  all_goals
    refine EvP.wp [] 60 rfl ?_
    refine (hr _).use ?_
    refine de_if (fun h => ?_) (fun h => ?_)
    · refine lt_if (b := 9999) hd rfl (by omega) (by omega) (fun h2 => ?_) (fun h2 => ?_)
      · refine ⟨rfl, ?_, rfl, rfl, rfl, rfl⟩
        rw [h, decide_eq_true h2]; rfl
      · refine ⟨rfl, ?_, rfl, rfl, rfl, rfl⟩
        rw [h, decide_eq_false (by omega)]; rfl
    · refine ⟨rfl, ?_, rfl, rfl, rfl, rfl⟩
      rw [h]; rfl
end CLS
