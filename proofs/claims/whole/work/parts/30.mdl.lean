/-! the model's methods, as functions of its row of numbers -/
def isOnB (N : Nat → Int32) (m : Int32) (i : Nat) : Bool := decide (N (63 + 8 * i + 3) = 1) && decide (N (63 + 8 * i + 4) = m)
def wOn (N : Nat → Int32) (m sd : Int32) : Nat → Int32 := sm (fun i => bif isOnB N m i && decide (N (63 + 8 * i + 5) = sd) then N (63 + 8 * i + 1) else 0)
def sOn (N : Nat → Int32) (m : Int32) : Nat → Int32 := sm (fun i => zb (isOnB N m i))
def vOn (N : Nat → Int32) (m : Int32) : Nat → Int32 := sm (fun i => bif isOnB N m i then N (63 + 8 * i + 2) else 0)
def bearN (N : Nat → Int32) (i : Nat) : Int32 := N (15 + 8 * i) * (100 - N (15 + 8 * i + 1)) / 100
def inB (v lo hi : Int32) : Bool := decide (¬ v < lo) && decide (¬ hi < v)
def absB (v : Int32) : Int32 := bif decide (v < 0) then -v else v
def poorI (N : Nat → Int32) (m : Int32) : Nat → Option Nat := pick (isOnB N m) (fun i b => decide (N (63 + 8 * i + 2) < N (63 + 8 * b + 2)))
def leaveN (N : Nat → Int32) (k : Nat) (place : Int32) : Nat → Int32 := upd (upd (upd (upd N (63 + 8 * k + 3) place) (63 + 8 * k + 4) (-1)) (63 + 8 * k + 5) (-1)) (63 + 8 * k + 6) (bif decide (place = 0) then -1 else N 6)
def packN (N : Nat → Int32) (k : Nat) (m sd : Int32) : Nat → Int32 := upd (upd (upd N (63 + 8 * k + 3) 1) (63 + 8 * k + 4) m) (63 + 8 * k + 5) sd
def countN (N : Nat → Int32) (w : Nat) (more : Int32) : Nat → Int32 := upd N (8 + w) (N (8 + w) + more)
def thr (M : mM) (w : Int32) : mM := upM M 145 (upd (M 145) 3 w)
section MDL
variable {RO : List mE} {d sb : Nat} {ext : List sh} {M : mM}
theorem e_refuse {w : Int32} : EvR RO (d + 1) 205 [.ref 145, .int w] (gW sb ext) M (some (.int 0)) (thr M w) := by
  refine EvP.wp [] 40 rfl ?_
  exact ⟨rfl, rfl, rfl, rfl, rfl⟩
theorem e_told {w : Int32} : EvR RO (d + 1) 227 [.ref 145, .int w] (gW sb ext) M (some (.int w)) (thr M 0) := by
  refine EvP.wp [] 40 rfl ?_
  exact ⟨rfl, rfl, rfl, rfl, rfl⟩
theorem e_in {v lo hi : Int32} : EvR RO (d + 1) 163 [.int v, .int lo, .int hi] (gW sb ext) M (some (.int (zb (inB v lo hi)))) M := by
  refine EvP.wp [] 40 rfl ?_
  refine ⟨fun h => ?_, fun h => ?_⟩
  · refine ⟨rfl, ?_, rfl, rfl, rfl, rfl⟩
    simp [inB, h, zb]
  · refine ⟨fun h2 => ?_, fun h2 => ?_⟩
    · refine ⟨rfl, ?_, rfl, rfl, rfl, rfl⟩
      simp [inB, h, h2, zb]
    · refine ⟨rfl, ?_, rfl, rfl, rfl, rfl⟩
      simp [inB, h, h2, zb]
theorem e_without {v : Int32} : EvR RO (d + 1) 241 [.int v] (gW sb ext) M (some (.int (absB v))) M := by
  refine EvP.wp [] 40 rfl ?_
  refine ⟨fun h => ?_, fun h => ?_⟩
  · refine ⟨?_, rfl, rfl, rfl, rfl⟩
    simp [absB, h]
  · refine ⟨?_, rfl, rfl, rfl, rfl⟩
    simp [absB, h]
theorem e_m {i : Nat} : EvR RO (d + 1) 183 [.int (Int32.ofNat i)] (gW sb ext) M (some (.int (Int32.ofNat (15 + 8 * i)))) M := by
  refine EvP.wp [] 40 rfl ?_
  refine ⟨?_, rfl, rfl, rfl, rfl⟩
  rw [Int32.ofNat_add, Int32.ofNat_mul]; rfl
theorem e_s {i : Nat} : EvR RO (d + 1) 211 [.int (Int32.ofNat i)] (gW sb ext) M (some (.int (Int32.ofNat (63 + 8 * i)))) M := by
  refine EvP.wp [] 40 rfl ?_
  refine ⟨?_, rfl, rfl, rfl, rfl⟩
  rw [Int32.ofNat_add, Int32.ofNat_mul]; rfl
theorem e_t {i : Nat} : EvR RO (d + 1) 220 [.int (Int32.ofNat i)] (gW sb ext) M (some (.int (Int32.ofNat (191 + 2 * i)))) M := by
  refine EvP.wp [] 40 rfl ?_
  refine ⟨?_, rfl, rfl, rfl, rfl⟩
  rw [Int32.ofNat_add, Int32.ofNat_mul]; rfl
theorem e_isMule {v : Int32} : EvR RO (d + 2) 170 [.ref 145, .int v] (gW sb ext) M (some (.int (zb (inB v 0 (M 149 3 - 1))))) M := by
  refine EvP.wp [] 40 rfl ?_
  refine ⟨3, rfl, by omega, ?_⟩
  refine e_in.use ?_
  exact ⟨nar_zb, rfl, rfl, rfl, rfl, rfl⟩
theorem e_isSack {v : Int32} : EvR RO (d + 2) 174 [.ref 145, .int v] (gW sb ext) M (some (.int (zb (inB v 0 (M 149 4 - 1))))) M := by
  refine EvP.wp [] 40 rfl ?_
  refine ⟨4, rfl, by omega, ?_⟩
  refine e_in.use ?_
  exact ⟨nar_zb, rfl, rfl, rfl, rfl, rfl⟩
theorem e_isStage {v : Int32} : EvR RO (d + 2) 175 [.ref 145, .int v] (gW sb ext) M (some (.int (zb (inB v 0 (M 149 5 - 1))))) M := by
  refine EvP.wp [] 40 rfl ?_
  refine ⟨5, rfl, by omega, ?_⟩
  refine e_in.use ?_
  exact ⟨nar_zb, rfl, rfl, rfl, rfl, rfl⟩
theorem e_counts {w : Nat} {more : Int32} (hw : w < 7) : EvR RO (d + 1) 144 [.ref 145, .int (Int32.ofNat w), .int more] (gW sb ext) M none (upM M 149 (countN (M 149) w more)) := by
  refine EvP.wp [] 40 rfl ?_
  refine ⟨8 + w, i_add 8 w, by omega, ?_⟩
  refine ⟨8 + w, i_add 8 w, by omega, ?_⟩
  exact ⟨rfl, rfl, rfl, rfl, rfl⟩
theorem e_worthOf {i : Nat} (hi : i < 16) : EvR RO (d + 2) 242 [.ref 145, .int (Int32.ofNat i)] (gW sb ext) M (some (.int (M 149 (63 + 8 * i + 2)))) M := by
  refine EvP.wp [] 40 rfl ?_
  refine e_s.use ?_
  refine ⟨63 + 8 * i + 2, i_add _ 2, by omega, ?_⟩
  exact ⟨rfl, rfl, rfl, rfl, rfl⟩
theorem e_weightOf {i : Nat} (hi : i < 16) : EvR RO (d + 2) 235 [.ref 145, .int (Int32.ofNat i)] (gW sb ext) M (some (.int (M 149 (63 + 8 * i + 1)))) M := by
  refine EvP.wp [] 40 rfl ?_
  refine e_s.use ?_
  refine ⟨63 + 8 * i + 1, i_add _ 1, by omega, ?_⟩
  exact ⟨rfl, rfl, rfl, rfl, rfl⟩
theorem e_isOn {i : Nat} {m : Int32} (hi : i < 16) : EvR RO (d + 2) 172 [.ref 145, .int (Int32.ofNat i), .int m] (gW sb ext) M (some (.int (zb (isOnB (M 149) m i)))) M := by
  refine EvP.wp [] 40 rfl ?_
  refine e_s.use ?_
  refine ⟨63 + 8 * i + 3, i_add _ 3, by omega, ?_⟩
  refine ⟨fun h1 => ?_, fun h1 => ?_⟩
  · refine e_s.use ?_
    refine ⟨63 + 8 * i + 4, i_add _ 4, by omega, ?_⟩
    refine ⟨fun h2 => ?_, fun h2 => ?_⟩
    · refine ⟨rfl, ?_, rfl, rfl, rfl, rfl⟩
      simp [isOnB, zb, h1, h2]
    · refine ⟨rfl, ?_, rfl, rfl, rfl, rfl⟩
      simp [isOnB, zb, h1, h2]
  · refine ⟨rfl, ?_, rfl, rfl, rfl, rfl⟩
    simp [isOnB, zb, h1]
theorem e_isPacked {i : Nat} (hi : i < 16) : EvR RO (d + 2) 173 [.ref 145, .int (Int32.ofNat i)] (gW sb ext) M (some (.int (zb (decide (M 149 (63 + 8 * i + 3) = 1))))) M := by
  refine EvP.wp [] 40 rfl ?_
  refine e_s.use ?_
  refine ⟨63 + 8 * i + 3, i_add _ 3, by omega, ?_⟩
  refine ⟨fun h1 => ?_, fun h1 => ?_⟩
  · refine ⟨rfl, ?_, rfl, rfl, rfl, rfl⟩
    simp [zb, h1]
  · refine ⟨rfl, ?_, rfl, rfl, rfl, rfl⟩
    simp [zb, h1]
theorem e_weightOn {S : Nat} {m sd : Int32} (hS : S ≤ 16) (hN : M 149 4 = Int32.ofNat S) : EvR RO (d + 3) 236 [.ref 145, .int m, .int sd] (gW sb ext) M (some (.int (wOn (M 149) m sd S))) M := by
  refine EvR.of (fun Q hQ => ?_)
  refine EvP.wp [5] 40 rfl ?_
  refine up_ind (S := S) (H := fun i => GoP RO (d + 2) 236 [.ref 145, .int m, .int sd, .int (wOn (M 149) m sd i), .int (Int32.ofNat i)] [] (gW sb ext) M 5 0 0 Q) ?_ (fun i hi ih => ?_) 0 (by omega)
  · refine wp_sound [5] 60 _ _ _ _ _ _ _ ?_
    refine ⟨4, rfl, by omega, ?_⟩
    refine lt_if rfl hN (by omega) (by omega) (fun h => absurd h (by omega)) (fun _ => ?_)
    exact hQ
  · refine wp_sound [5] 60 _ _ _ _ _ _ _ ?_
    refine ⟨4, rfl, by omega, ?_⟩
    refine lt_if rfl hN (by omega) (by omega) (fun _ => ?_) (fun h => absurd h (by omega))
    refine (e_isOn (by omega)).use ?_
    have hstep : ∀ w, (bif isOnB (M 149) m i && decide (M 149 (63 + 8 * i + 5) = sd) then M 149 (63 + 8 * i + 1) else 0) = w → GoP RO (d + 2) 236 [.ref 145, .int m, .int sd, .int (wOn (M 149) m sd i + w), .int (Int32.ofNat i + 1)] [] (gW sb ext) M 5 0 0 Q := fun w hw => by
      subst hw
      rw [show Int32.ofNat i + 1 = Int32.ofNat (i + 1) from i_add i 1]
      exact ih
    refine zb_if (fun h1 => ?_) (fun h1 => ?_)
    · refine hstep _ ?_
      rw [h1]; rfl
    · refine e_s.use ?_
      refine ⟨63 + 8 * i + 5, i_add _ 5, by omega, ?_⟩
      refine ⟨fun h2 => ?_, fun h2 => ?_⟩
      · refine (e_weightOf (by omega)).use ?_
        refine hstep _ ?_
        rw [h1, decide_eq_true h2]; rfl
      · refine hstep _ ?_
        rw [h1, decide_eq_false h2]; rfl
end MDL
