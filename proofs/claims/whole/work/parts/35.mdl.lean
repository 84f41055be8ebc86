/-! reasons, rests, what is remembered -/
def tiltN (N : Nat → Int32) (i S : Nat) : Int32 := absB (wOn N (Int32.ofNat i) 0 S - wOn N (Int32.ofNat i) 1 S)
def tiltedI (N : Nat → Int32) (S : Nat) : Nat → Option Nat := pick (fun i => decide (N 0 < tiltN N i S)) (fun _ _ => false)
def packedI (N : Nat → Int32) : Nat → Option Nat := pick (fun k => decide (N (63 + 8 * k + 3) = 1)) (fun _ _ => false)
def whyN (N : Nat → Int32) (m S : Nat) : Int32 := bif (packedI N S).isSome then (bif (tiltedI N S m).isSome then 2 else 0) else 1
theorem pick_next {p : Nat → Bool} {i : Nat} (h : pick p (fun _ _ => false) i = none) : pick p (fun _ _ => false) (i + 1) = bif p i then some i else none := by
  rw [pick, h]
theorem pick_stays {p : Nat → Bool} {i a : Nat} (h : pick p (fun _ _ => false) i = some a) : ∀ n, i ≤ n → pick p (fun _ _ => false) n = some a := by
  intro n
  induction n with
  | zero => intro hi; rw [show i = 0 by omega] at h; exact h
  | succ n ih =>
    intro hi
    by_cases e : i = n + 1
    · rw [← e]; exact h
    · rw [pick, ih (by omega)]
      show (bif p n && false then some n else some a) = some a
      rw [Bool.and_false]; rfl
def bringN (N : Nat → Int32) (k : Nat) (kd w v : Int32) : Nat → Int32 := upd (upd (upd (upd (upd (upd (upd (upd N (63 + 8 * k) kd) (63 + 8 * k + 1) w) (63 + 8 * k + 2) v) (63 + 8 * k + 3) 0) (63 + 8 * k + 4) (-1)) (63 + 8 * k + 5) (-1)) (63 + 8 * k + 6) (-1)) (63 + 8 * k + 7) v
def bringsN (N : Nat → Int32) (k : Nat) (kd w v : Int32) : Nat → Int32 := upd (bringN N k kd w v) 4 (bringN N k kd w v 4 + 1)
def leadN (N : Nat → Int32) (k : Nat) (kd n : Int32) : Nat → Int32 := upd (upd N (191 + 2 * k) kd) (191 + 2 * k + 1) n
def leadsN (N : Nat → Int32) (k : Nat) (kd n : Int32) : Nat → Int32 := upd (leadN N k kd n) 5 (leadN N k kd n 5 + 1)
def easeN (N : Nat → Int32) : Nat → (Nat → Int32)
  | 0 => N
  | k + 1 => tireN (easeN N k) k (-(easeN N k 1))
def restN (m : Nat) (N : Nat → Int32) : Nat → (Nat → Int32)
  | 0 => N
  | D + 1 => easeN (upd (restN m N D) 6 (restN m N D 6 + 1)) m
def copyF (O : Nat → Int32) (q : Nat) (N : Nat → Int32) (p k : Nat) : Nat → Int32 := fun j => if q ≤ j ∧ j < q + k then N (p + (j - q)) else O j
theorem copyF_0 {O N : Nat → Int32} {q p : Nat} : copyF O q N p 0 = O := by
  funext j
  rw [copyF, if_neg (by omega)]
theorem copyF_s {O N : Nat → Int32} {q p k : Nat} : upd (copyF O q N p k) (q + k) (N (p + k)) = copyF O q N p (k + 1) := by
  funext j
  by_cases e : j = q + k
  · subst e
    rw [upd_at, copyF, if_pos (by omega), show q + k - q = k by omega]
  · rw [upd_ne e, copyF, copyF]
    by_cases h : q ≤ j ∧ j < q + k
    · rw [if_pos h, if_pos (by omega)]
    · rw [if_neg h, if_neg (by omega)]
theorem upd_upd {f : Nat → Int32} {i : Nat} {a b : Int32} : upd (upd f i a) i b = upd f i b := by
  funext j
  by_cases e : j = i
  · rw [e, upd_at, upd_at]
  · rw [upd_ne e, upd_ne e, upd_ne e]
def shiftF (O : Nat → Int32) (k : Nat) : Nat → Int32 := fun j => if j + 207 < k then O (j + 207) else O j
theorem shiftF_0 {O : Nat → Int32} : shiftF O 207 = O := by
  funext j
  rw [shiftF, if_neg (by omega)]
theorem shiftF_s {O : Nat → Int32} {k : Nat} (h : 207 ≤ k) : upd (shiftF O k) (k - 207) (shiftF O k k) = shiftF O (k + 1) := by
  funext j
  by_cases e : j = k - 207
  · rw [e, upd_at, shiftF, shiftF, if_neg (by omega), if_pos (by omega), show k - 207 + 207 = k by omega]
  · rw [upd_ne e, shiftF, shiftF]
    by_cases h : j + 207 < k
    · rw [if_pos h, if_pos (by omega)]
    · rw [if_neg h, if_neg (by omega)]
/-- the rows kept, and how many, behind one more -/
def remC (c : Nat) : Nat := bif Nat.beq c 10 then 9 else c
def remO (O N : Nat → Int32) (c : Nat) : Nat → Int32 := copyF (bif Nat.beq c 10 then shiftF O 2070 else O) (remC c * 207) N 0 207
def remM (M : mM) (c : Nat) : mM := upM (upM M 151 (remO (M 151) (M 149) c)) 145 (upd (M 145) 7 (Int32.ofNat (remC c + 1)))
section MDL
variable {RO : List mE} {d sb : Nat} {ext : List sh} {M : mM}
theorem e_firstTilted {S m : Nat} (hS : S ≤ 16) (hm : m ≤ 6) (hN : M 149 4 = Int32.ofNat S) (hN3 : M 149 3 = Int32.ofNat m) : EvR RO (d + 6) 156 [.ref 145] (gW sb ext) M (some (.int (enc (tiltedI (M 149) S m)))) M := by
  refine EvR.of (fun Q hQ => ?_)
  refine EvP.wp [2] 40 rfl ?_
  refine up_ind (S := m) (H := fun i => tiltedI (M 149) S i = none → GoP RO (d + 5) 156 [.ref 145, .int (Int32.ofNat i)] [] (gW sb ext) M 2 0 0 Q) (fun hp => ?_) (fun i hi ih hp => ?_) 0 (by omega) rfl
  · refine wp_sound [2] 60 _ _ _ _ _ _ _ ?_
    refine ⟨3, rfl, by omega, ?_⟩
    refine lt_if rfl hN3 (by omega) (by omega) (fun h => absurd h (by omega)) (fun _ => ?_)
    rw [hp] at hQ
    exact hQ
  · refine wp_sound [2] 60 _ _ _ _ _ _ _ ?_
    refine ⟨3, rfl, by omega, ?_⟩
    refine lt_if rfl hN3 (by omega) (by omega) (fun _ => ?_) (fun h => absurd h (by omega))
    refine (e_isLevel hS hN).use ?_
    have hnext := pick_next hp
    refine zb_if (fun h1 => ?_) (fun h1 => ?_)
    · have h1 : decide (M 149 0 < tiltN (M 149) i S) = true := by
        cases hd : decide (M 149 0 < tiltN (M 149) i S) with
        | true => rfl
        | false =>
          have h1 : (!decide (M 149 0 < tiltN (M 149) i S)) = false := h1
          rw [hd] at h1; cases h1
      rw [h1] at hnext
      have h9 := pick_stays hnext m (by omega)
      rw [tiltedI, h9] at hQ
      exact hQ
    · have h1 : decide (M 149 0 < tiltN (M 149) i S) = false := by
        cases hd : decide (M 149 0 < tiltN (M 149) i S) with
        | false => rfl
        | true =>
          have h1 : (!decide (M 149 0 < tiltN (M 149) i S)) = true := h1
          rw [hd] at h1; cases h1
      rw [h1] at hnext
      refine GoP.eq2 (ih hnext) (by rw [i_inc]) rfl
theorem e_isAnyPacked {S : Nat} (hS : S ≤ 16) (hN : M 149 4 = Int32.ofNat S) : EvR RO (d + 3) 165 [.ref 145] (gW sb ext) M (some (.int (zb (packedI (M 149) S).isSome))) M := by
  refine EvR.of (fun Q hQ => ?_)
  refine EvP.wp [2] 40 rfl ?_
  refine up_ind (S := S) (H := fun i => packedI (M 149) i = none → GoP RO (d + 2) 165 [.ref 145, .int (Int32.ofNat i)] [] (gW sb ext) M 2 0 0 Q) (fun hp => ?_) (fun i hi ih hp => ?_) 0 (by omega) rfl
  · refine wp_sound [2] 60 _ _ _ _ _ _ _ ?_
    refine ⟨4, rfl, by omega, ?_⟩
    refine lt_if rfl hN (by omega) (by omega) (fun h => absurd h (by omega)) (fun _ => ?_)
    rw [hp] at hQ
    exact ⟨rfl, hQ⟩
  · refine wp_sound [2] 60 _ _ _ _ _ _ _ ?_
    refine ⟨4, rfl, by omega, ?_⟩
    refine lt_if rfl hN (by omega) (by omega) (fun _ => ?_) (fun h => absurd h (by omega))
    refine (e_isPacked (by omega)).use ?_
    have hnext := pick_next hp
    refine zb_if (fun h1 => ?_) (fun h1 => ?_)
    · rw [h1] at hnext
      refine GoP.eq2 (ih hnext) (by rw [i_inc]) rfl
    · rw [h1] at hnext
      have h9 := pick_stays hnext S (by omega)
      rw [packedI, h9] at hQ
      exact ⟨rfl, hQ⟩
theorem e_tripReason {S m : Nat} (hS : S ≤ 16) (hm : m ≤ 6) (hN : M 149 4 = Int32.ofNat S) (hN3 : M 149 3 = Int32.ofNat m) : EvR RO (d + 7) 230 [.ref 145] (gW sb ext) M (some (.int (whyN (M 149) m S))) M := by
  refine EvR.of (fun Q hQ => ?_)
  refine EvP.wp [] 40 rfl ?_
  refine (e_isAnyPacked hS hN).use ?_
  rw [whyN] at hQ
  refine zb_if (fun h1 => ?_) (fun h1 => ?_)
  · rw [h1] at hQ
    exact hQ
  · rw [h1] at hQ
    refine (e_firstTilted hS hm hN hN3).use ?_
    cases hp : tiltedI (M 149) S m with
    | none =>
      rw [hp] at hQ
      exact ⟨fun _ => hQ, fun h => absurd rfl h⟩
    | some i =>
      rw [hp] at hQ
      have hi : i < m := (pick_lt hp).1
      exact ⟨fun h => absurd h (i_ne_m1 (by omega)), fun _ => hQ⟩
theorem e_brings {k : Nat} {kd w v : Int32} (hk : k < 16) (hN : M 149 4 = Int32.ofNat k) : EvR RO (d + 2) 142 [.ref 145, .int kd, .int w, .int v] (gW sb ext) M none (upM M 149 (bringsN (M 149) k kd w v)) := by
  refine EvP.wp [] 90 rfl ?_
  refine ⟨4, rfl, by omega, ?_⟩
  rw [hN]
  refine e_s.use ?_
  refine ⟨63 + 8 * k, i_add _ 0, by omega, ?_⟩
  refine ⟨63 + 8 * k + 1, i_add _ 1, by omega, ?_⟩
  refine ⟨63 + 8 * k + 2, i_add _ 2, by omega, ?_⟩
  refine ⟨63 + 8 * k + 3, i_add _ 3, by omega, ?_⟩
  refine ⟨63 + 8 * k + 4, i_add _ 4, by omega, ?_⟩
  refine ⟨63 + 8 * k + 5, i_add _ 5, by omega, ?_⟩
  refine ⟨63 + 8 * k + 6, i_add _ 6, by omega, ?_⟩
  refine ⟨63 + 8 * k + 7, i_add _ 7, by omega, ?_⟩
  refine ⟨4, rfl, by omega, ?_⟩
  refine ⟨4, rfl, by omega, ?_⟩
  refine ⟨rfl, rfl, ?_, rfl, rfl⟩
  simp only [upM_at, upM_upM]; rfl
theorem e_leads {k : Nat} {kd n : Int32} (hk : k < 8) (hN : M 149 5 = Int32.ofNat k) : EvR RO (d + 2) 176 [.ref 145, .int kd, .int n] (gW sb ext) M none (upM M 149 (leadsN (M 149) k kd n)) := by
  refine EvP.wp [] 90 rfl ?_
  refine ⟨5, rfl, by omega, ?_⟩
  rw [hN]
  refine e_t.use ?_
  refine ⟨191 + 2 * k, rfl, by omega, ?_⟩
  refine ⟨5, rfl, by omega, ?_⟩
  rw [show upM M 149 (upd (M 149) (191 + 2 * k) kd) 149 5 = Int32.ofNat k by rw [upM_at, upd_ne (by omega)]; exact hN]
  refine e_t.use ?_
  refine ⟨191 + 2 * k + 1, i_add _ 1, by omega, ?_⟩
  refine ⟨5, rfl, by omega, ?_⟩
  refine ⟨5, rfl, by omega, ?_⟩
  refine ⟨rfl, rfl, ?_, rfl, rfl⟩
  simp only [upM_at, upM_upM]; rfl
theorem e_putsAside : EvR RO (d + 1) 195 [.ref 145] (gW sb ext) M none (upM M 150 (copyF (M 150) 0 (M 149) 0 207)) := by
  refine EvR.of (fun Q hQ => ?_)
  refine EvP.wp [2] 40 rfl ?_
  have key := up_ind (S := 207) (H := fun i => GoP RO d 195 [.ref 145, .int (Int32.ofNat i)] [] (gW sb ext) (upM M 150 (copyF (M 150) 0 (M 149) 0 i)) 2 0 0 Q) ?_ (fun i hi ih => ?_) 0 (by omega)
  · rw [copyF_0, upM_self] at key
    exact key
  · refine wp_sound [2] 60 _ _ _ _ _ _ _ ?_
    refine lt_if rfl (b := 207) rfl (by omega) (by omega) (fun h => absurd h (by omega)) (fun _ => ?_)
    exact hQ
  · refine wp_sound [2] 60 _ _ _ _ _ _ _ ?_
    refine lt_if rfl (b := 207) rfl (by omega) (by omega) (fun _ => ?_) (fun h => absurd h (by omega))
    refine ⟨i, rfl, by omega, ?_⟩
    refine ⟨i, rfl, by omega, ?_⟩
    refine GoP.eq2 ih (by rw [i_inc]) ?_
    rw [← copyF_s, upM_at, upM_upM, Nat.zero_add]; rfl
theorem e_putsBack : EvR RO (d + 1) 196 [.ref 145] (gW sb ext) M none (upM M 149 (copyF (M 149) 0 (M 150) 0 207)) := by
  refine EvR.of (fun Q hQ => ?_)
  refine EvP.wp [2] 40 rfl ?_
  have key := up_ind (S := 207) (H := fun i => GoP RO d 196 [.ref 145, .int (Int32.ofNat i)] [] (gW sb ext) (upM M 149 (copyF (M 149) 0 (M 150) 0 i)) 2 0 0 Q) ?_ (fun i hi ih => ?_) 0 (by omega)
  · rw [copyF_0, upM_self] at key
    exact key
  · refine wp_sound [2] 60 _ _ _ _ _ _ _ ?_
    refine lt_if rfl (b := 207) rfl (by omega) (by omega) (fun h => absurd h (by omega)) (fun _ => ?_)
    exact hQ
  · refine wp_sound [2] 60 _ _ _ _ _ _ _ ?_
    refine lt_if rfl (b := 207) rfl (by omega) (by omega) (fun _ => ?_) (fun h => absurd h (by omega))
    refine ⟨i, rfl, by omega, ?_⟩
    refine ⟨i, rfl, by omega, ?_⟩
    refine GoP.eq2 ih (by rw [i_inc]) ?_
    rw [← copyF_s, upM_at, upM_upM, Nat.zero_add]; rfl
theorem e_rests {m D : Nat} (hm : m ≤ 6) (hD : D ≤ 99) (hN : M 149 3 = Int32.ofNat m) : EvR RO (d + 3) 209 [.ref 145, .int (Int32.ofNat D)] (gW sb ext) M none (upM M 149 (restN m (M 149) D)) := by
  refine EvR.of (fun Q hQ => ?_)
  refine EvP.wp [2, 20] 40 rfl ?_
  have hE : ∀ (N : Nat → Int32) (j : Nat), j < 6 → ∀ k, easeN N k j = N j := by
    intro N j hj k
    induction k with
    | zero => rfl
    | succ k ih => rw [easeN, tireN, upd_ne (by omega), ih]
  have hR : ∀ (j : Nat), j < 6 → ∀ k, restN m (M 149) k j = M 149 j := by
    intro j hj k
    induction k with
    | zero => rfl
    | succ k ih => rw [restN, hE _ j hj, upd_ne (by omega), ih]
  have key := up_ind (S := D) (H := fun i => ∀ v : Value, GoP RO (d + 2) 209 [.ref 145, .int (Int32.ofNat D), .int (Int32.ofNat i), v] [] (gW sb ext) (upM M 149 (restN m (M 149) i)) 2 0 0 Q) ?_ (fun i hi ih => ?_) 0 (by omega)
  · have key := key (.retAddr 0)
    rw [show restN m (M 149) 0 = M 149 from rfl, upM_self] at key
    exact key
  · intro v
    refine wp_sound [2, 20] 60 _ _ _ _ _ _ _ ?_
    refine lt_if rfl rfl (by omega) (by omega) (fun h => absurd h (by omega)) (fun _ => ?_)
    exact hQ
  · intro v
    refine wp_sound [2, 20] 60 _ _ _ _ _ _ _ ?_
    refine lt_if rfl rfl (by omega) (by omega) (fun _ => ?_) (fun h => absurd h (by omega))
    refine ⟨6, rfl, by omega, ?_⟩
    refine ⟨6, rfl, by omega, ?_⟩
    have key2 := up_ind (S := m) (H := fun k => GoP RO (d + 2) 209 [.ref 145, .int (Int32.ofNat D), .int (Int32.ofNat i), .int (Int32.ofNat k)] [] (gW sb ext) (upM M 149 (easeN (upd (restN m (M 149) i) 6 (restN m (M 149) i 6 + 1)) k)) 20 0 0 Q) ?_ (fun k hk ih2 => ?_) 0 (by omega)
    · refine GoP.eq2 key2 rfl ?_
      simp only [upM_at, upM_upM]; rfl
    · refine wp_sound [2, 20] 60 _ _ _ _ _ _ _ ?_
      refine ⟨3, rfl, by omega, ?_⟩
      refine lt_if rfl (show upM M 149 (easeN (upd (restN m (M 149) i) 6 (restN m (M 149) i 6 + 1)) m) 149 3 = Int32.ofNat m by rw [upM_at, hE _ 3 (by omega), upd_ne (by omega), hR 3 (by omega)]; exact hN) (by omega) (by omega) (fun h => absurd h (by omega)) (fun _ => ?_)
      refine GoP.eq2 (ih _) (by rw [i_inc]) rfl
    · refine wp_sound [2, 20] 60 _ _ _ _ _ _ _ ?_
      refine ⟨3, rfl, by omega, ?_⟩
      refine lt_if rfl (show upM M 149 (easeN (upd (restN m (M 149) i) 6 (restN m (M 149) i 6 + 1)) k) 149 3 = Int32.ofNat m by rw [upM_at, hE _ 3 (by omega), upd_ne (by omega), hR 3 (by omega)]; exact hN) (by omega) (by omega) (fun _ => ?_) (fun h => absurd h (by omega))
      refine ⟨1, rfl, by omega, ?_⟩
      refine (e_tires (by omega)).use ?_
      refine GoP.eq2 ih2 (by rw [i_inc]) ?_
      simp only [upM_at, upM_upM]; rfl
theorem e_remembers {c : Nat} (hc : c ≤ 10) (hN : M 145 7 = Int32.ofNat c) : EvR RO (d + 1) 206 [.ref 145] (gW sb ext) M none (remM M c) := by
  refine EvR.of (fun Q hQ => ?_)
  have hcopy : ∀ (c1 : Nat) (O : Nat → Int32) (M1 : mM), c1 ≤ 9 → M1 145 7 = Int32.ofNat c1 → M1 149 = M 149 → M1 151 = O → Q (.inl none) (gW sb ext) (upM (upM M1 151 (copyF O (c1 * 207) (M 149) 0 207)) 145 (upd (M1 145) 7 (Int32.ofNat (c1 + 1)))) 0 0 → GoP RO d 206 [.ref 145, .int 0] [] (gW sb ext) M1 54 0 0 Q := by
    intro c1 O M1 hc1 h7 h149 h151 hQ
    have key := up_ind (S := 207) (H := fun i => GoP RO d 206 [.ref 145, .int (Int32.ofNat i)] [] (gW sb ext) (upM M1 151 (copyF O (c1 * 207) (M 149) 0 i)) 54 0 0 Q) ?_ (fun i hi ih => ?_) 0 (by omega)
    · rw [copyF_0, ← h151, upM_self] at key
      exact key
    · refine wp_sound [54] 60 _ _ _ _ _ _ _ ?_
      refine lt_if rfl (b := 207) rfl (by omega) (by omega) (fun h => absurd h (by omega)) (fun _ => ?_)
      refine Q_of hQ rfl ?_
      rw [← i_inc, ← h7]; rfl
    · refine wp_sound [54] 60 _ _ _ _ _ _ _ ?_
      refine lt_if rfl (b := 207) rfl (by omega) (by omega) (fun _ => ?_) (fun h => absurd h (by omega))
      refine ⟨i, rfl, by omega, ?_⟩
      refine ⟨c1 * 207 + i, ?_, by omega, ?_⟩
      · show M1 145 7 * 207 + Int32.ofNat i = _
        rw [h7, show (207 : Int32) = Int32.ofNat 207 from rfl, i_mul, i_add]
      · refine GoP.eq2 ih (by rw [i_inc]) ?_
        rw [← copyF_s, upM_at, upM_upM, Nat.zero_add, ← h149]; rfl
  refine EvP.wp [13, 54] 60 rfl ?_
  refine eq_if (b := 10) hN rfl (by omega) (by omega) (fun h => ?_) (fun h => ?_)
  · have key := up_ind (S := 1863) (H := fun i => GoP RO d 206 [.ref 145, .int (Int32.ofNat (207 + i))] [] (gW sb ext) (upM M 151 (shiftF (M 151) (207 + i))) 13 0 0 Q) ?_ (fun i hi ih => ?_) 0 (by omega)
    · rw [Nat.add_zero, shiftF_0, upM_self] at key
      exact key
    · refine wp_sound [13, 54] 60 _ _ _ _ _ _ _ ?_
      refine lt_if rfl (b := 2070) rfl (by omega) (by omega) (fun h => absurd h (by omega)) (fun _ => ?_)
      refine hcopy 9 (shiftF (M 151) 2070) _ (by omega) ?_ rfl rfl ?_
      · show M 145 7 - 1 = _
        rw [hN, h]; decide
      · refine Q_of hQ rfl ?_
        rw [remM, remO, remC, show Nat.beq c 10 = true by rw [h]; rfl]
        simp only [upM_at, upM_ne (show (145 : Nat) ≠ 151 by decide), upd_upd, upM_comm (q := 145) (r := 151) (by decide), upM_upM]
        rfl
    · refine wp_sound [13, 54] 60 _ _ _ _ _ _ _ ?_
      refine lt_if rfl (b := 2070) rfl (by omega) (by omega) (fun _ => ?_) (fun h => absurd h (by omega))
      refine ⟨207 + i, rfl, by omega, ?_⟩
      refine ⟨i, ?_, by omega, ?_⟩
      · show Int32.ofNat (207 + i) - Int32.ofNat 207 = _
        rw [i_sub (by omega), show 207 + i - 207 = i by omega]
      · refine GoP.eq2 ih (by rw [i_inc]; rfl) ?_
        have h9 := shiftF_s (O := M 151) (k := 207 + i) (by omega)
        rw [show 207 + i - 207 = i by omega] at h9
        rw [show 207 + (i + 1) = 207 + i + 1 by omega, ← h9, upM_at, upM_upM]
  · refine hcopy c (M 151) M (by omega) hN rfl rfl ?_
    refine Q_of hQ rfl ?_
    rw [remM, remO, remC, show Nat.beq c 10 = false from nbf h]; rfl
end MDL
