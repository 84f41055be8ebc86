/-! the best sack, letters, sums -/
def bestI (N : Nat → Int32) (i S : Nat) : Nat → Option Nat := pick (fun k => decide (prN N k i S = 0)) (fun k b => decide (N (63 + 8 * b + 2) * N (63 + 8 * k + 1) < N (63 + 8 * k + 2) * N (63 + 8 * b + 1)))
def lightN (N : Nat → Int32) (m : Int32) (S : Nat) : Int32 := zb (decide (wOn N m 1 S < wOn N m 0 S))
def lettI (N : Nat → Int32) (i : Nat) : Nat → Option Nat := pick (fun n => decide (N (15 + 8 * i + 2 + n) = 0)) (fun _ _ => false)
def lettN (N : Nat → Int32) (i : Nat) : Nat := (lettI N i 6).getD 6
def milesN (N : Nat → Int32) : Nat → Int32 := sm (fun k => bif decide (N (191 + 2 * k) = 0) then N (191 + 2 * k + 1) else 0)
def placeN (N : Nat → Int32) (p : Int32) : Nat → Int32 := sm (fun k => zb (decide (N (63 + 8 * k + 3) = p)))
def gapS (N : Nat → Int32) : Nat → Int32
  | 0 => 0
  | k + 1 => gapS N k + N (63 + 8 * k + 7) - (bif decide (1 < N (63 + 8 * k + 3)) then 0 else N (63 + 8 * k + 2))
def overN (N : Nat → Int32) (S : Nat) : Nat → Int32 := sm (fun k => bif decide (bearN N k < loadN N (Int32.ofNat k) S) then loadN N (Int32.ofNat k) S - bearN N k else 0)
def gapN (N : Nat → Int32) (m S : Nat) : Int32 := absB (gapS N S - N 9 - N 10 - N 11 - N 12) + absB (N 7 - N 9 + N 13) + overN N S m
theorem pick_off {p : Nat → Bool} {b : Nat → Nat → Bool} {i : Nat} (h : p i = false) : pick p b (i + 1) = pick p b i := by
  rw [pick]
  cases pick p b i with
  | none => show (bif p i then some i else none) = none; rw [h]; rfl
  | some c => show (bif p i && b i c then some i else some c) = some c; rw [h]; rfl
theorem pick_new {p : Nat → Bool} {b : Nat → Nat → Bool} {i : Nat} (hp : pick p b i = none) (h : p i = true) : pick p b (i + 1) = some i := by
  rw [pick, hp]
  show (bif p i then some i else none) = some i
  rw [h]; rfl
theorem pick_old {p : Nat → Bool} {b : Nat → Nat → Bool} {i c : Nat} (hp : pick p b i = some c) (h : p i = true) : pick p b (i + 1) = bif b i c then some i else some c := by
  rw [pick, hp]
  show (bif p i && b i c then some i else some c) = _
  rw [h]; rfl
theorem lettN_le {N : Nat → Int32} {i : Nat} : lettN N i ≤ 6 := by
  rw [lettN]
  cases h : lettI N i 6 with
  | none => exact Nat.le_refl _
  | some a => exact Nat.le_of_lt (pick_lt h).1
section MDL
variable {RO : List mE} {d sb : Nat} {ext : List sh} {M : mM}
theorem e_lighterOf {S : Nat} {m : Int32} (hS : S ≤ 16) (hN : M 149 4 = Int32.ofNat S) : EvR RO (d + 4) 180 [.ref 145, .int m] (gW sb ext) M (some (.int (lightN (M 149) m S))) M := by
  refine EvP.wp [] 40 rfl ?_
  refine (e_weightOn hS hN).use ?_
  refine (e_weightOn hS hN).use ?_
  refine de_if (fun h => ?_) (fun h => ?_)
  · refine ⟨?_, rfl, rfl, rfl, rfl⟩
    rw [lightN, h]; rfl
  · refine ⟨?_, rfl, rfl, rfl, rfl⟩
    rw [lightN, h]; rfl
theorem e_lettersOf {i : Nat} (hi : i < 6) : EvR RO (d + 2) 178 [.ref 145, .int (Int32.ofNat i)] (gW sb ext) M (some (.int (Int32.ofNat (lettN (M 149) i)))) M := by
  refine EvR.of (fun Q hQ => ?_)
  refine EvP.wp [2] 40 rfl ?_
  refine up_ind (S := 6) (H := fun n => lettI (M 149) i n = none → GoP RO (d + 1) 178 [.ref 145, .int (Int32.ofNat i), .int (Int32.ofNat n)] [] (gW sb ext) M 2 0 0 Q) (fun hp => ?_) (fun n hn ih hp => ?_) 0 (by omega) rfl
  · refine wp_sound [2] 60 _ _ _ _ _ _ _ ?_
    refine lt_if rfl (b := 6) rfl (by omega) (by omega) (fun h => absurd h (by omega)) (fun _ => ?_)
    rw [lettN, hp] at hQ
    exact hQ
  · refine wp_sound [2] 60 _ _ _ _ _ _ _ ?_
    refine lt_if rfl (b := 6) rfl (by omega) (by omega) (fun _ => ?_) (fun h => absurd h (by omega))
    refine e_m.use ?_
    refine ⟨15 + 8 * i + 2 + n, ?_, by omega, ?_⟩
    · show Int32.ofNat (15 + 8 * i) + Int32.ofNat 2 + Int32.ofNat n = _
      rw [i_add, i_add]
    have hnext := pick_next hp
    refine de_if (fun h1 => ?_) (fun h1 => ?_)
    · rw [show decide (M 149 (15 + 8 * i + 2 + n) = 0) = true from h1] at hnext
      have h9 := pick_stays hnext 6 (by omega)
      rw [lettN, lettI, h9] at hQ
      exact hQ
    · rw [show decide (M 149 (15 + 8 * i + 2 + n) = 0) = false from h1] at hnext
      refine GoP.eq2 (ih hnext) (by rw [i_inc]) rfl
theorem e_milesAll {t : Nat} (ht : t ≤ 8) (hN : M 149 5 = Int32.ofNat t) : EvR RO (d + 2) 184 [.ref 145] (gW sb ext) M (some (.int (milesN (M 149) t))) M := by
  refine EvR.of (fun Q hQ => ?_)
  refine EvP.wp [4] 40 rfl ?_
  refine up_ind (S := t) (H := fun i => GoP RO (d + 1) 184 [.ref 145, .int (milesN (M 149) i), .int (Int32.ofNat i)] [] (gW sb ext) M 4 0 0 Q) ?_ (fun i hi ih => ?_) 0 (by omega)
  · refine wp_sound [4] 60 _ _ _ _ _ _ _ ?_
    refine ⟨5, rfl, by omega, ?_⟩
    refine lt_if rfl hN (by omega) (by omega) (fun h => absurd h (by omega)) (fun _ => ?_)
    exact hQ
  · refine wp_sound [4] 60 _ _ _ _ _ _ _ ?_
    refine ⟨5, rfl, by omega, ?_⟩
    refine lt_if rfl hN (by omega) (by omega) (fun _ => ?_) (fun h => absurd h (by omega))
    refine e_t.use ?_
    refine ⟨191 + 2 * i, rfl, by omega, ?_⟩
    refine de_if (fun h1 => ?_) (fun h1 => ?_)
    · refine e_t.use ?_
      refine ⟨191 + 2 * i + 1, i_add _ 1, by omega, ?_⟩
      refine GoP.eq2 ih ?_ rfl
      rw [i_inc, milesN, sm, show decide (M 149 (191 + 2 * i) = 0) = true from h1]; rfl
    · refine GoP.eq2 ih ?_ rfl
      rw [i_inc, milesN, sm, show decide (M 149 (191 + 2 * i) = 0) = false from h1]; rfl
theorem e_atPlace {S : Nat} {p : Int32} (hS : S ≤ 16) (hN : M 149 4 = Int32.ofNat S) : EvR RO (d + 2) 135 [.ref 145, .int p] (gW sb ext) M (some (.int (placeN (M 149) p S))) M := by
  refine EvR.of (fun Q hQ => ?_)
  refine EvP.wp [4] 40 rfl ?_
  refine up_ind (S := S) (H := fun i => GoP RO (d + 1) 135 [.ref 145, .int p, .int (placeN (M 149) p i), .int (Int32.ofNat i)] [] (gW sb ext) M 4 0 0 Q) ?_ (fun i hi ih => ?_) 0 (by omega)
  · refine wp_sound [4] 60 _ _ _ _ _ _ _ ?_
    refine ⟨4, rfl, by omega, ?_⟩
    refine lt_if rfl hN (by omega) (by omega) (fun h => absurd h (by omega)) (fun _ => ?_)
    exact hQ
  · refine wp_sound [4] 60 _ _ _ _ _ _ _ ?_
    refine ⟨4, rfl, by omega, ?_⟩
    refine lt_if rfl hN (by omega) (by omega) (fun _ => ?_) (fun h => absurd h (by omega))
    refine e_s.use ?_
    refine ⟨63 + 8 * i + 3, i_add _ 3, by omega, ?_⟩
    refine de_if (fun h1 => ?_) (fun h1 => ?_)
    · refine GoP.eq2 ih ?_ rfl
      rw [i_inc, placeN, sm, show decide (M 149 (63 + 8 * i + 3) = p) = true from h1]; rfl
    · refine GoP.eq2 ih ?_ rfl
      rw [i_inc, placeN, sm, show decide (M 149 (63 + 8 * i + 3) = p) = false from h1]; rfl
theorem e_bestFor {S i : Nat} (hS : S ≤ 16) (hi : i < 6) (hN : M 149 4 = Int32.ofNat S) : EvR RO (d + 6) 138 [.ref 145, .int (Int32.ofNat i)] (gW sb ext) M (some (.int (enc (bestI (M 149) i S S)))) M := by
  refine EvR.of (fun Q hQ => ?_)
  refine EvP.wp [4] 40 rfl ?_
  refine up_ind (S := S) (H := fun k => GoP RO (d + 5) 138 [.ref 145, .int (Int32.ofNat i), .int (enc (bestI (M 149) i S k)), .int (Int32.ofNat k)] [] (gW sb ext) M 4 0 0 Q) ?_ (fun k hk ih => ?_) 0 (by omega)
  · refine wp_sound [4] 60 _ _ _ _ _ _ _ ?_
    refine ⟨4, rfl, by omega, ?_⟩
    refine lt_if rfl hN (by omega) (by omega) (fun h => absurd h (by omega)) (fun _ => ?_)
    exact hQ
  · refine wp_sound [4] 60 _ _ _ _ _ _ _ ?_
    refine ⟨4, rfl, by omega, ?_⟩
    refine lt_if rfl hN (by omega) (by omega) (fun _ => ?_) (fun h => absurd h (by omega))
    refine (e_packReason hS hN (by omega) hi).use ?_
    refine de_if (fun h1 => ?_) (fun h1 => ?_)
    · cases hp : bestI (M 149) i S k with
      | none =>
        refine ⟨fun _ => ?_, fun h => absurd rfl h⟩
        refine GoP.eq2 ih ?_ rfl
        rw [i_inc, show bestI (M 149) i S (k + 1) = some k from pick_new hp h1]
        rfl
      | some b =>
        have hb : b < k := (pick_lt hp).1
        refine ⟨fun h => absurd h (i_ne_m1 (by omega)), fun _ => ?_⟩
        refine (e_worthOf (by omega)).use ?_
        refine (e_weightOf (by omega)).use ?_
        refine (e_worthOf (by omega)).use ?_
        refine (e_weightOf (by omega)).use ?_
        have hstep : bestI (M 149) i S (k + 1) = (bif decide (M 149 (63 + 8 * b + 2) * M 149 (63 + 8 * k + 1) < M 149 (63 + 8 * k + 2) * M 149 (63 + 8 * b + 1)) then some k else some b) := pick_old hp h1
        refine de_if (fun h2 => ?_) (fun h2 => ?_)
        · refine GoP.eq2 ih ?_ rfl
          rw [i_inc, hstep, h2]; rfl
        · refine GoP.eq2 ih ?_ rfl
          rw [i_inc, hstep, h2]; rfl
    · refine GoP.eq2 ih ?_ rfl
      rw [i_inc, show bestI (M 149) i S (k + 1) = bestI (M 149) i S k from pick_off h1]
theorem e_gap {m S : Nat} (hS : S ≤ 16) (hm : m ≤ 6) (hN : M 149 4 = Int32.ofNat S) (hN3 : M 149 3 = Int32.ofNat m) : EvR RO (d + 6) 160 [.ref 145] (gW sb ext) M (some (.int (gapN (M 149) m S))) (thr M 0) := by
  refine EvR.of (fun Q hQ => ?_)
  refine EvP.wp [4, 116] 60 rfl ?_
  refine up_ind (S := S) (H := fun i => GoP RO (d + 5) 160 [.ref 145, .int (gapS (M 149) i), .int (Int32.ofNat i), .retAddr 0, .retAddr 0] [] (gW sb ext) M 4 0 0 Q) ?_ (fun i hi ih => ?_) 0 (by omega)
  · refine wp_sound [4, 116] 120 _ _ _ _ _ _ _ ?_
    refine ⟨4, rfl, by omega, ?_⟩
    refine lt_if rfl hN (by omega) (by omega) (fun h => absurd h (by omega)) (fun _ => ?_)
    refine ⟨fun h => absurd h (by decide), fun _ => ?_⟩
    refine ⟨9, rfl, by omega, ?_⟩
    refine ⟨fun h => absurd h (by decide), fun _ => ?_⟩
    refine ⟨10, rfl, by omega, ?_⟩
    refine ⟨fun h => absurd h (by decide), fun _ => ?_⟩
    refine ⟨11, rfl, by omega, ?_⟩
    refine ⟨fun h => absurd h (by decide), fun _ => ?_⟩
    refine ⟨12, rfl, by omega, ?_⟩
    refine ⟨fun _ => ?_, fun h => absurd (by decide) h⟩
    refine ⟨7, rfl, by omega, ?_⟩
    refine ⟨9, rfl, by omega, ?_⟩
    refine ⟨13, rfl, by omega, ?_⟩
    refine up_ind (S := m) (H := fun i => GoP RO (d + 5) 160 [.ref 145, .int (gapS (M 149) S - M 149 9 - M 149 10 - M 149 11 - M 149 12), .int (M 149 7 - M 149 9 + M 149 13), .int (overN (M 149) S i), .int (Int32.ofNat i)] [] (gW sb ext) M 116 0 0 Q) ?_ (fun i hi ih => ?_) 0 (by omega)
    · refine wp_sound [116] 60 _ _ _ _ _ _ _ ?_
      refine ⟨3, rfl, by omega, ?_⟩
      refine lt_if rfl hN3 (by omega) (by omega) (fun h => absurd h (by omega)) (fun _ => ?_)
      refine e_without.use ?_
      refine e_without.use ?_
      refine e_told.use ?_
      exact hQ
    · refine wp_sound [116] 60 _ _ _ _ _ _ _ ?_
      refine ⟨3, rfl, by omega, ?_⟩
      refine lt_if rfl hN3 (by omega) (by omega) (fun _ => ?_) (fun h => absurd h (by omega))
      refine (e_loadOf hS hN).use ?_
      refine (e_bears (by omega)).use ?_
      refine de_if (fun h1 => ?_) (fun h1 => ?_)
      · refine (e_loadOf hS hN).use ?_
        refine (e_bears (by omega)).use ?_
        refine GoP.eq2 ih ?_ rfl
        rw [i_inc, overN, sm, h1]; rfl
      · refine GoP.eq2 ih ?_ rfl
        rw [i_inc, overN, sm, h1]; rfl
  · refine wp_sound [4, 116] 60 _ _ _ _ _ _ _ ?_
    refine ⟨4, rfl, by omega, ?_⟩
    refine lt_if rfl hN (by omega) (by omega) (fun _ => ?_) (fun h => absurd h (by omega))
    refine e_s.use ?_
    refine ⟨63 + 8 * i + 7, i_add _ 7, by omega, ?_⟩
    refine e_s.use ?_
    refine ⟨63 + 8 * i + 3, i_add _ 3, by omega, ?_⟩
    refine de_if (fun h1 => ?_) (fun h1 => ?_)
    · refine GoP.eq2 ih ?_ rfl
      rw [i_inc, gapS, show decide (1 < M 149 (63 + 8 * i + 3)) = true from h1]; rfl
    · refine (e_worthOf (by omega)).use ?_
      refine GoP.eq2 ih ?_ rfl
      rw [i_inc, gapS, show decide (1 < M 149 (63 + 8 * i + 3)) = false from h1]; rfl
end MDL
