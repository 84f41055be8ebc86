def loadN (N : Nat → Int32) (m : Int32) (S : Nat) : Int32 := wOn N m 0 S + wOn N m 1 S
def prN (N : Nat → Int32) (k i S : Nat) : Int32 := bif decide (N (63 + 8 * k + 3) = 0) then (bif decide (bearN N i < loadN N (Int32.ofNat i) S + N (63 + 8 * k + 1)) then 2 else 0) else 1
def clampB (v : Int32) : Int32 := bif decide (v < 0) then 0 else bif decide (100 < v) then 100 else v
def tireN (N : Nat → Int32) (i : Nat) (more : Int32) : Nat → Int32 := upd N (15 + 8 * i + 1) (clampB (N (15 + 8 * i + 1) + more))
def lostN (N : Nat → Int32) (k : Nat) : Nat → Int32 := leaveN (countN N 2 (N (63 + 8 * k + 2))) k 3
theorem GoP.eq2 {RO : List mE} {d k pc c s : Nat} {L L' st : List Value} {G : List sh} {M M' : mM} {Q : mQ} (h : GoP RO d k L st G M pc c s Q) (hL : L' = L) (hM : M' = M) : GoP RO d k L' st G M' pc c s Q := by
  subst hL hM
  exact h
theorem i_inc {i : Nat} : Int32.ofNat i + 1 = Int32.ofNat (i + 1) := i_add i 1
section MDL
variable {RO : List mE} {d sb : Nat} {ext : List sh} {M : mM}
theorem e_sacksOn {S : Nat} {m : Int32} (hS : S ≤ 16) (hN : M 149 4 = Int32.ofNat S) : EvR RO (d + 3) 213 [.ref 145, .int m] (gW sb ext) M (some (.int (sOn (M 149) m S))) M := by
  refine EvR.of (fun Q hQ => ?_)
  refine EvP.wp [4] 40 rfl ?_
  refine up_ind (S := S) (H := fun i => GoP RO (d + 2) 213 [.ref 145, .int m, .int (sOn (M 149) m i), .int (Int32.ofNat i)] [] (gW sb ext) M 4 0 0 Q) ?_ (fun i hi ih => ?_) 0 (by omega)
  · refine wp_sound [4] 60 _ _ _ _ _ _ _ ?_
    refine ⟨4, rfl, by omega, ?_⟩
    refine lt_if rfl hN (by omega) (by omega) (fun h => absurd h (by omega)) (fun _ => ?_)
    exact hQ
  · refine wp_sound [4] 60 _ _ _ _ _ _ _ ?_
    refine ⟨4, rfl, by omega, ?_⟩
    refine lt_if rfl hN (by omega) (by omega) (fun _ => ?_) (fun h => absurd h (by omega))
    refine (e_isOn (by omega)).use ?_
    refine zb_if (fun h1 => ?_) (fun h1 => ?_)
    · refine GoP.eq2 ih ?_ rfl
      rw [i_inc, sOn, sm, h1]; rfl
    · refine GoP.eq2 ih ?_ rfl
      rw [i_inc, sOn, sm, h1]; rfl
theorem e_worthOn {S : Nat} {m : Int32} (hS : S ≤ 16) (hN : M 149 4 = Int32.ofNat S) : EvR RO (d + 3) 244 [.ref 145, .int m] (gW sb ext) M (some (.int (vOn (M 149) m S))) M := by
  refine EvR.of (fun Q hQ => ?_)
  refine EvP.wp [4] 40 rfl ?_
  refine up_ind (S := S) (H := fun i => GoP RO (d + 2) 244 [.ref 145, .int m, .int (vOn (M 149) m i), .int (Int32.ofNat i)] [] (gW sb ext) M 4 0 0 Q) ?_ (fun i hi ih => ?_) 0 (by omega)
  · refine wp_sound [4] 60 _ _ _ _ _ _ _ ?_
    refine ⟨4, rfl, by omega, ?_⟩
    refine lt_if rfl hN (by omega) (by omega) (fun h => absurd h (by omega)) (fun _ => ?_)
    exact hQ
  · refine wp_sound [4] 60 _ _ _ _ _ _ _ ?_
    refine ⟨4, rfl, by omega, ?_⟩
    refine lt_if rfl hN (by omega) (by omega) (fun _ => ?_) (fun h => absurd h (by omega))
    refine (e_isOn (by omega)).use ?_
    refine zb_if (fun h1 => ?_) (fun h1 => ?_)
    · refine GoP.eq2 ih ?_ rfl
      rw [i_inc, vOn, sm, h1]; rfl
    · refine (e_worthOf (by omega)).use ?_
      refine GoP.eq2 ih ?_ rfl
      rw [i_inc, vOn, sm, h1]; rfl
theorem e_loadOf {S : Nat} {m : Int32} (hS : S ≤ 16) (hN : M 149 4 = Int32.ofNat S) : EvR RO (d + 4) 182 [.ref 145, .int m] (gW sb ext) M (some (.int (loadN (M 149) m S))) M := by
  refine EvP.wp [] 40 rfl ?_
  refine (e_weightOn hS hN).use ?_
  refine (e_weightOn hS hN).use ?_
  exact ⟨rfl, rfl, rfl, rfl, rfl⟩
theorem e_tilt {S : Nat} {m : Int32} (hS : S ≤ 16) (hN : M 149 4 = Int32.ofNat S) : EvR RO (d + 4) 224 [.ref 145, .int m] (gW sb ext) M (some (.int (absB (wOn (M 149) m 0 S - wOn (M 149) m 1 S)))) M := by
  refine EvP.wp [] 40 rfl ?_
  refine (e_weightOn hS hN).use ?_
  refine (e_weightOn hS hN).use ?_
  refine e_without.use ?_
  exact ⟨rfl, rfl, rfl, rfl, rfl⟩
theorem e_isLevel {S : Nat} {m : Int32} (hS : S ≤ 16) (hN : M 149 4 = Int32.ofNat S) : EvR RO (d + 5) 169 [.ref 145, .int m] (gW sb ext) M (some (.int (zb (!decide (M 149 0 < absB (wOn (M 149) m 0 S - wOn (M 149) m 1 S)))))) M := by
  refine EvP.wp [] 40 rfl ?_
  refine (e_tilt hS hN).use ?_
  refine ⟨0, rfl, by omega, ?_⟩
  refine de_if (fun h => ?_) (fun h => ?_)
  · refine ⟨rfl, ?_, rfl, rfl, rfl, rfl⟩
    rw [h]; rfl
  · refine ⟨rfl, ?_, rfl, rfl, rfl, rfl⟩
    rw [h]; rfl
theorem e_bears {i : Nat} (hi : i < 6) : EvR RO (d + 2) 136 [.ref 145, .int (Int32.ofNat i)] (gW sb ext) M (some (.int (bearN (M 149) i))) M := by
  refine EvP.wp [] 40 rfl ?_
  refine e_m.use ?_
  refine ⟨15 + 8 * i, i_add _ 0, by omega, ?_⟩
  refine e_m.use ?_
  refine ⟨15 + 8 * i + 1, i_add _ 1, by omega, ?_⟩
  refine ⟨by decide, ?_⟩
  exact ⟨rfl, rfl, rfl, rfl, rfl⟩
theorem e_packReason {S k i : Nat} (hS : S ≤ 16) (hN : M 149 4 = Int32.ofNat S) (hk : k < 16) (hi : i < 6) : EvR RO (d + 5) 191 [.ref 145, .int (Int32.ofNat k), .int (Int32.ofNat i)] (gW sb ext) M (some (.int (prN (M 149) k i S))) M := by
  refine EvP.wp [] 60 rfl ?_
  refine e_s.use ?_
  refine ⟨63 + 8 * k + 3, i_add _ 3, by omega, ?_⟩
  refine de_if (fun h => ?_) (fun h => ?_)
  · refine (e_loadOf hS hN).use ?_
    refine (e_weightOf hk).use ?_
    refine (e_bears hi).use ?_
    refine de_if (fun h2 => ?_) (fun h2 => ?_)
    · refine ⟨?_, rfl, rfl, rfl, rfl⟩
      rw [prN, h, cond_true, h2]; rfl
    · refine ⟨?_, rfl, rfl, rfl, rfl⟩
      rw [prN, h, cond_true, h2]; rfl
  · refine ⟨?_, rfl, rfl, rfl, rfl⟩
    rw [prN, h]; rfl
theorem e_packs {k : Nat} {m sd : Int32} (hk : k < 16) : EvR RO (d + 2) 192 [.ref 145, .int (Int32.ofNat k), .int m, .int sd] (gW sb ext) M none (upM M 149 (packN (M 149) k m sd)) := by
  refine EvP.wp [] 60 rfl ?_
  refine e_s.use ?_
  refine ⟨63 + 8 * k + 3, i_add _ 3, by omega, ?_⟩
  refine e_s.use ?_
  refine ⟨63 + 8 * k + 4, i_add _ 4, by omega, ?_⟩
  refine e_s.use ?_
  refine ⟨63 + 8 * k + 5, i_add _ 5, by omega, ?_⟩
  refine ⟨rfl, rfl, ?_, rfl, rfl⟩
  simp only [upM_at, upM_upM]; rfl
theorem e_leaves {k : Nat} {pl : Int32} (hk : k < 16) : EvR RO (d + 2) 177 [.ref 145, .int (Int32.ofNat k), .int pl] (gW sb ext) M none (upM M 149 (leaveN (M 149) k pl)) := by
  refine EvP.wp [] 60 rfl ?_
  refine e_s.use ?_
  refine ⟨63 + 8 * k + 3, i_add _ 3, by omega, ?_⟩
  refine e_s.use ?_
  refine ⟨63 + 8 * k + 4, i_add _ 4, by omega, ?_⟩
  refine e_s.use ?_
  refine ⟨63 + 8 * k + 5, i_add _ 5, by omega, ?_⟩
  refine e_s.use ?_
  refine de_if (fun h => ?_) (fun h => ?_)
  · refine ⟨63 + 8 * k + 6, i_add _ 6, by omega, ?_⟩
    refine ⟨rfl, rfl, ?_, rfl, rfl⟩
    simp only [upM_at, upM_upM, leaveN, h]; rfl
  · refine ⟨6, rfl, by omega, ?_⟩
    refine ⟨63 + 8 * k + 6, i_add _ 6, by omega, ?_⟩
    refine ⟨rfl, rfl, ?_, rfl, rfl⟩
    have h6 : ∀ x : Nat, 6 ≠ 63 + 8 * k + x := fun x => by omega
    simp only [upM_at, upM_upM, leaveN, h, cond_false, upd, if_neg (h6 3), if_neg (h6 4), if_neg (h6 5)]
theorem e_tires {i : Nat} {more : Int32} (hi : i < 6) : EvR RO (d + 2) 226 [.ref 145, .int (Int32.ofNat i), .int more] (gW sb ext) M none (upM M 149 (tireN (M 149) i more)) := by
  refine EvP.wp [] 60 rfl ?_
  refine e_m.use ?_
  refine ⟨15 + 8 * i + 1, i_add _ 1, by omega, ?_⟩
  refine e_m.use ?_
  refine de_if (fun h => ?_) (fun h => ?_)
  · refine ⟨15 + 8 * i + 1, i_add _ 1, by omega, ?_⟩
    refine ⟨rfl, rfl, ?_, rfl, rfl⟩
    rw [tireN, clampB, h]; rfl
  · refine de_if (fun h2 => ?_) (fun h2 => ?_)
    · refine ⟨15 + 8 * i + 1, i_add _ 1, by omega, ?_⟩
      refine ⟨rfl, rfl, ?_, rfl, rfl⟩
      rw [tireN, clampB, h, cond_false, h2]; rfl
    · refine ⟨15 + 8 * i + 1, i_add _ 1, by omega, ?_⟩
      refine ⟨rfl, rfl, ?_, rfl, rfl⟩
      rw [tireN, clampB, h, cond_false, h2]; rfl
theorem e_poorestOn {S : Nat} {m : Int32} (hS : S ≤ 16) (hN : M 149 4 = Int32.ofNat S) : EvR RO (d + 3) 194 [.ref 145, .int m] (gW sb ext) M (some (.int (enc (poorI (M 149) m S)))) M := by
  refine EvR.of (fun Q hQ => ?_)
  refine EvP.wp [4] 40 rfl ?_
  refine up_ind (S := S) (H := fun i => GoP RO (d + 2) 194 [.ref 145, .int m, .int (enc (poorI (M 149) m i)), .int (Int32.ofNat i)] [] (gW sb ext) M 4 0 0 Q) ?_ (fun i hi ih => ?_) 0 (by omega)
  · refine wp_sound [4] 60 _ _ _ _ _ _ _ ?_
    refine ⟨4, rfl, by omega, ?_⟩
    refine lt_if rfl hN (by omega) (by omega) (fun h => absurd h (by omega)) (fun _ => ?_)
    exact hQ
  · refine wp_sound [4] 60 _ _ _ _ _ _ _ ?_
    refine ⟨4, rfl, by omega, ?_⟩
    refine lt_if rfl hN (by omega) (by omega) (fun _ => ?_) (fun h => absurd h (by omega))
    refine (e_isOn (by omega)).use ?_
    refine zb_if (fun h1 => ?_) (fun h1 => ?_)
    · refine GoP.eq2 ih ?_ rfl
      rw [i_inc, show poorI (M 149) m (i + 1) = poorI (M 149) m i from by
        show (match poorI (M 149) m i with
          | none => _
          | some b => _) = _
        rw [h1]
        cases poorI (M 149) m i <;> rfl]
    · cases hp : poorI (M 149) m i with
      | none =>
        refine ⟨fun _ => ?_, fun h => absurd rfl h⟩
        refine GoP.eq2 ih ?_ rfl
        rw [i_inc, show poorI (M 149) m (i + 1) = some i from by
          show (match poorI (M 149) m i with
            | none => _
            | some b => _) = _
          rw [h1, hp]; rfl]
        rfl
      | some b =>
        have hb : b < i := (pick_lt hp).1
        refine ⟨fun h => absurd h (i_ne_m1 (by omega)), fun _ => ?_⟩
        refine (e_worthOf (by omega)).use ?_
        refine (e_worthOf (by omega)).use ?_
        have hstep : poorI (M 149) m (i + 1) = (bif true && decide (M 149 (63 + 8 * i + 2) < M 149 (63 + 8 * b + 2)) then some i else some b) := by
          show (match poorI (M 149) m i with
            | none => _
            | some b => _) = _
          rw [hp, h1]
        refine de_if (fun h2 => ?_) (fun h2 => ?_)
        · refine GoP.eq2 ih ?_ rfl
          rw [i_inc, hstep, h2]; rfl
        · refine GoP.eq2 ih ?_ rfl
          rw [i_inc, hstep, h2]; rfl
end MDL
