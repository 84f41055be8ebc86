theorem i_add (a b : Nat) : Int32.ofNat a + Int32.ofNat b = Int32.ofNat (a + b) := (Int32.ofNat_add a b).symm
theorem i_mul (a b : Nat) : Int32.ofNat a * Int32.ofNat b = Int32.ofNat (a * b) := (Int32.ofNat_mul a b).symm
theorem i_lt {a b : Nat} (ha : a < 1000000) (hb : b < 1000000) : Int32.ofNat a < Int32.ofNat b ↔ a < b := Int32.ofNat_lt_iff_lt (by omega) (by omega)
theorem i_le {a b : Nat} (ha : a < 1000000) (hb : b < 1000000) : Int32.ofNat a ≤ Int32.ofNat b ↔ a ≤ b := Int32.ofNat_le_iff_le (by omega) (by omega)
section TST
variable {RO : List mE} {d sb : Nat} {ext : List sh} {M : mM}
theorem e_s {i : Nat} : EvR RO (d + 1) 211 [.int (Int32.ofNat i)] (gW sb ext) M (some (.int (Int32.ofNat (63 + 8 * i)))) M := by
  refine EvP.wp [] 40 rfl ?_
  refine ⟨?_, rfl, rfl, rfl, rfl⟩
  rw [Int32.ofNat_add, Int32.ofNat_mul]; rfl
theorem e_worthOf {i : Nat} (hi : i < 16) : EvR RO (d + 2) 242 [.ref 145, .int (Int32.ofNat i)] (gW sb ext) M (some (.int (M 149 (63 + 8 * i + 2)))) M := by
  refine EvP.wp [] 40 rfl ?_
  refine e_s.use ?_
  refine ⟨63 + 8 * i + 2, i_add _ 2, by omega, ?_⟩
  exact ⟨rfl, rfl, rfl, rfl, rfl⟩
theorem e_weightOf {i : Nat} (hi : i < 16) : EvR RO (d + 2) 235 [.ref 145, .int (Int32.ofNat i)] (gW sb ext) M (some (.int (M 149 (63 + 8 * i + 1)))) M := by
  refine EvP.wp [] 40 rfl ?_
  refine e_s.use ?_
  refine ⟨63 + 8 * i + 1, i_add _ 1, by omega, ?_⟩
  exact ⟨rfl, rfl, rfl, rfl, rfl⟩
def zb (b : Bool) : Int32 := bif b then 1 else 0
def isOnB (N : Nat → Int32) (m : Int32) (i : Nat) : Bool := decide (N (63 + 8 * i + 3) = 1) && decide (N (63 + 8 * i + 4) = m)
theorem e_isOn {i : Nat} {m : Int32} (hi : i < 16) : EvR RO (d + 2) 172 [.ref 145, .int (Int32.ofNat i), .int m] (gW sb ext) M (some (.int (zb (isOnB (M 149) m i)))) M := by
  refine EvP.wp [] 40 rfl ?_
  refine e_s.use ?_
  refine ⟨63 + 8 * i + 3, i_add _ 3, by omega, ?_⟩
  refine ⟨fun h1 => ?_, fun h1 => ?_⟩
  · refine e_s.use ?_
    refine ⟨63 + 8 * i + 4, i_add _ 4, by omega, ?_⟩
    refine ⟨fun h2 => ?_, fun h2 => ?_⟩
    · refine ⟨rfl, ?_, rfl, rfl, rfl, rfl⟩
      simp [isOnB, zb, h1, h2]
    · refine ⟨rfl, ?_, rfl, rfl, rfl, rfl⟩
      simp [isOnB, zb, h1, h2]
  · refine ⟨rfl, ?_, rfl, rfl, rfl, rfl⟩
    simp [isOnB, zb, h1]
def wOn (N : Nat → Int32) (m sd : Int32) : Nat → Int32
  | 0 => 0
  | i + 1 => wOn N m sd i + (bif isOnB N m i && decide (N (63 + 8 * i + 5) = sd) then N (63 + 8 * i + 1) else 0)
theorem e_weightOn_l {S : Nat} {m sd : Int32} (hS : S ≤ 16) (hN : M 149 4 = Int32.ofNat S) {Q : mQ} (hQ : Q (.inl (some (.int (wOn (M 149) m sd S)))) (gW sb ext) M 0 0) : ∀ n i : Nat, S = i + n → GoP RO (d + 2) 236 [.ref 145, .int m, .int sd, .int (wOn (M 149) m sd i), .int (Int32.ofNat i)] [] (gW sb ext) M 5 0 0 Q := by
  intro n
  induction n with
  | zero =>
    intro i hi
    refine wp_sound [5] 60 _ _ _ _ _ _ _ ?_
    refine ⟨4, rfl, by omega, ?_⟩
    refine ⟨fun h => ?_, fun h => ?_⟩
    · rw [hN, i_lt (by omega) (by omega)] at h
      omega
    · have : i = S := by omega
      subst this
      exact hQ
  | succ n ih =>
    intro i hi
    refine wp_sound [5] 60 _ _ _ _ _ _ _ ?_
    refine ⟨4, rfl, by omega, ?_⟩
    refine ⟨fun h => ?_, fun h => ?_⟩
    · refine (e_isOn (by omega)).use ?_
      have hstep : ∀ w, wOn (M 149) m sd i + w = wOn (M 149) m sd (i + 1) → GoP RO (d + 2) 236 [.ref 145, .int m, .int sd, .int (wOn (M 149) m sd i + w), .int (Int32.ofNat i + 1)] [] (gW sb ext) M 5 0 0 Q := by
        intro w hw
        rw [hw, show Int32.ofNat i + 1 = Int32.ofNat (i + 1) from i_add i 1]
        exact ih (i + 1) (by omega)
      refine ⟨fun h1 => ?_, fun h1 => ?_⟩
      · refine hstep _ ?_
        simp only [wOn]
        cases hb : isOnB (M 149) m i with
        | true => rw [hb] at h1; exact absurd h1 (by decide)
        | false => rfl
      · refine e_s.use ?_
        refine ⟨63 + 8 * i + 5, i_add _ 5, by omega, ?_⟩
        have hb : isOnB (M 149) m i = true := by
          cases hb : isOnB (M 149) m i with
          | true => rfl
          | false => rw [hb] at h1; exact absurd rfl h1
        refine ⟨fun h2 => ?_, fun h2 => ?_⟩
        · refine (e_weightOf (by omega)).use ?_
          refine hstep _ ?_
          simp only [wOn, hb, h2, decide_true, Bool.and_self, cond_true]
        · refine hstep _ ?_
          simp only [wOn, hb, h2, decide_false, Bool.and_false, cond_false]
    · rw [hN, i_lt (by omega) (by omega)] at h
      omega
theorem e_weightOn {S : Nat} {m sd : Int32} (hS : S ≤ 16) (hN : M 149 4 = Int32.ofNat S) : EvR RO (d + 3) 236 [.ref 145, .int m, .int sd] (gW sb ext) M (some (.int (wOn (M 149) m sd S))) M := by
  refine EvP.wp [5] 40 rfl ?_
  exact e_weightOn_l hS hN ⟨rfl, rfl, rfl, rfl, rfl⟩ S 0 (by omega)
end TST
