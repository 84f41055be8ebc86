/-! what the law asks, and its sum -/
section ASK
variable {RO : List mE} {d : Nat} {X : List sh} {M : mM} {Q : mQ} {m S t nx c : Nat} {N : Nat → Int32}
def vlV (N : Nat → Int32) (S t k : Nat) : Int32 := (u_value N S t 0 (Int32.ofNat k)).2
theorem vl_eq {k : Nat} {v : Int32} (hk : k < 10) : u_value N S t v (Int32.ofNat k) = (0, vlV N S t k) := by
  rcases (show k = 0 ∨ k = 1 ∨ k = 2 ∨ k = 3 ∨ k = 4 ∨ k = 5 ∨ k = 6 ∨ k = 7 ∨ k = 8 ∨ k = 9 by omega) with rfl | rfl | rfl | rfl | rfl | rfl | rfl | rfl | rfl | rfl <;> rfl
theorem a_value {k : Nat} (hT : TrN M 12 N m S t) (hk : k < 10) : EvR RO (d + 5) 126 [.ref 0, .int (Int32.ofNat k)] (gW 143 (.inl (1, 1) :: X)) M (some (.int (vlV N S t k))) M :=
  q_value hT rfl (qP_R (vl_eq hk))
theorem a_v0 (hT : TrN M 12 N m S t) : EvR RO (d + 5) 126 [.ref 0, .int 0] (gW 143 (.inl (1, 1) :: X)) M (some (.int (Int32.ofNat m))) M := by
  rw [← hT.1.1]; exact a_value (k := 0) hT (by omega)
theorem a_v1 (hT : TrN M 12 N m S t) : EvR RO (d + 5) 126 [.ref 0, .int 1] (gW 143 (.inl (1, 1) :: X)) M (some (.int (Int32.ofNat S))) M := by
  rw [← hT.1.2.1]; exact a_value (k := 1) hT (by omega)
theorem a_v6 (hT : TrN M 12 N m S t) : EvR RO (d + 5) 126 [.ref 0, .int 6] (gW 143 (.inl (1, 1) :: X)) M (some (.int (Int32.ofNat t))) M := by
  rw [← hT.1.2.2.1]; exact a_value (k := 6) hT (by omega)
theorem a_v2 (hT : TrN M 12 N m S t) : EvR RO (d + 5) 126 [.ref 0, .int 2] (gW 143 (.inl (1, 1) :: X)) M (some (.int (Int32.ofNat (plC N 0 S)))) M := by
  rw [← place_cnt]; exact a_value (k := 2) hT (by omega)
theorem a_v3 (hT : TrN M 12 N m S t) : EvR RO (d + 5) 126 [.ref 0, .int 3] (gW 143 (.inl (1, 1) :: X)) M (some (.int (Int32.ofNat (plC N 1 S)))) M := by
  rw [← place_cnt]; exact a_value (k := 3) hT (by omega)
theorem a_v4 (hT : TrN M 12 N m S t) : EvR RO (d + 5) 126 [.ref 0, .int 4] (gW 143 (.inl (1, 1) :: X)) M (some (.int (Int32.ofNat (plC N 2 S)))) M := by
  rw [← place_cnt]; exact a_value (k := 4) hT (by omega)
theorem a_v5 (hT : TrN M 12 N m S t) : EvR RO (d + 5) 126 [.ref 0, .int 5] (gW 143 (.inl (1, 1) :: X)) M (some (.int (Int32.ofNat (plC N 3 S)))) M := by
  rw [← place_cnt]; exact a_value (k := 5) hT (by omega)
theorem a_count {k : Nat} (hT : TrN M 12 N m S t) (hk : k < 7) : EvR RO (d + 5) 84 [.ref 0, .int (Int32.ofNat k)] (gW 143 (.inl (1, 1) :: X)) M (some (.int (N (8 + k)))) M :=
  q_count hT (qP_R (by rw [u_count, show inB (Int32.ofNat k) 0 6 = true from inB_on (n := 6) (by omega) hk rfl, cond_true, clamp_nn (by omega)]))
theorem a_setting {k : Nat} (hT : TrN M 12 N m S t) (hk : k < 3) : EvR RO (d + 5) 117 [.ref 0, .int (Int32.ofNat k)] (gW 143 (.inl (1, 1) :: X)) M (some (.int (N k))) M :=
  q_setting hT (qP_R (by rw [u_setting, show inB (Int32.ofNat k) 0 2 = true from inB_on (n := 2) (by omega) hk rfl, cond_true, clamp_nn (by omega)]))
theorem a_mule {i w : Nat} (hT : TrN M 12 N m S t) (hR : rOk N m S t) (hi : i < m) (hw : w < 10) : EvR RO (d + 7) 100 [.ref 0, .int (Int32.ofNat i), .int (Int32.ofNat w)] (gW 143 (.inl (1, 1) :: X)) M (some (.int (muleV N S (Int32.ofNat i) (Int32.ofNat w)))) M :=
  q_mule hT hR.1.2.1 (qP_R (by rw [u_mule, inB_in (by have := hR.1.1.2.2.2.1; omega) hT.1.1 hi rfl, cond_true, show inB (Int32.ofNat w) 0 9 = true from inB_on (n := 9) (by omega) hw rfl, cond_true]))
theorem a_sack {i w : Nat} (hT : TrN M 12 N m S t) (hR : rOk N m S t) (hi : i < S) (hw : w < 8) : EvR RO (d + 5) 114 [.ref 0, .int (Int32.ofNat i), .int (Int32.ofNat w)] (gW 143 (.inl (1, 1) :: X)) M (some (.int (N (63 + 8 * i + w)))) M :=
  q_sack hT (qP_R (by have h9 := hR.1.1.2.2.2.2.1; rw [u_sack, inB_in (by omega) hT.1.2.1 hi rfl, cond_true, show inB (Int32.ofNat w) 0 7 = true from inB_on (n := 7) (by omega) hw rfl, cond_true, clamp_nn (by omega), clamp_nn (by omega)]))
theorem a_stage {i w : Nat} (hT : TrN M 12 N m S t) (hR : rOk N m S t) (hi : i < t) (hw : w < 2) : EvR RO (d + 5) 119 [.ref 0, .int (Int32.ofNat i), .int (Int32.ofNat w)] (gW 143 (.inl (1, 1) :: X)) M (some (.int (N (191 + 2 * i + w)))) M :=
  q_stage hT (qP_R (by have h9 := hR.1.1.2.2.2.2.2.1; rw [u_stage, inB_in (by omega) hT.1.2.2.1 hi rfl, cond_true, show inB (Int32.ofNat w) 0 1 = true from inB_on (n := 1) (by omega) hw rfl, cond_true, clamp_nn (by omega), clamp_nn (by omega)]))
/-! the sum -/
def s1L (N : Nat → Int32) (S t : Nat) : Nat → Int64
  | 0 => 0
  | k + 1 => 31 * (31 * s1L N S t k + (vlV N S t k).toInt64) + (if k < 7 then N (8 + k) else 0).toInt64
def foS (f : Nat → Int32) (s : Int64) : Nat → Int64
  | 0 => s
  | k + 1 => 31 * foS f s k + (f k).toInt64
def s3L (f : Nat → Nat → Int32) (w : Nat) (s : Int64) : Nat → Int64
  | 0 => s
  | i + 1 => foS (f i) (s3L f w s i) w
def s5L (N : Nat → Int32) (s : Int64) : Nat → Int64
  | 0 => s
  | k + 1 => 31 * (31 * s5L N s k + (N (191 + 2 * k + 0)).toInt64) + (N (191 + 2 * k + 1)).toInt64
def sumL (N : Nat → Int32) (m S t : Nat) : Int64 := s5L N (s3L (fun i w => N (63 + 8 * i + w)) 8 (s3L (fun i w => muleV N S (Int32.ofNat i) (Int32.ofNat w)) 9 (foS N (s1L N S t 10) 3) m) S) t
theorem c_sum (hT : TrN M 12 N m S t) (hR : rOk N m S t) : EvR RO (d + 8) 366 [.ref 0] (gW 143 (.inl (1, 1) :: X)) M (some (.long (sumL N m S t))) M := by
  have hm := hR.1.1.2.2.2.1
  have hS := hR.1.1.2.2.2.2.1
  have ht := hR.1.1.2.2.2.2.2.1
  refine EvR.of (fun Q hQ => ?_)
  refine EvP.wp [4] 60 rfl ?_
  refine up_ind (S := 10) (H := fun i => GoP RO (d + 7) 366 [.ref 0, .long (s1L N S t i), .retAddr 0, .int (Int32.ofNat i), .retAddr 0] [] (gW 143 (.inl (1, 1) :: X)) M 4 0 0 Q) ?_ (fun i hi ih => ?_) 0 (by omega)
  rotate_left
  · refine wp_sound [4] 60 _ _ _ _ _ _ _ ?_
    refine lt_if (b := 10) rfl rfl (by omega) (by omega) (fun _ => ?_) (fun h => absurd h (by omega))
    refine (a_value hT hi).use ?_
    refine lt_if (b := 7) rfl rfl (by omega) (by omega) (fun h7 => ?_) (fun h7 => ?_)
    · refine (a_count hT h7).use ?_
      refine GoP.eq2 ih ?_ rfl
      rw [i_inc, s1L, if_pos h7]
    · refine GoP.eq2 ih ?_ rfl
      rw [i_inc, s1L, if_neg (by omega)]
  refine wp_sound [52] 60 _ _ _ _ _ _ _ ?_
  refine lt_if (a := 10) (b := 10) rfl rfl (by omega) (by omega) (fun h => absurd h (by omega)) (fun _ => ?_)
  refine up_ind (S := 3) (H := fun i => GoP RO (d + 7) 366 [.ref 0, .long (foS N (s1L N S t 10) i), .retAddr 0, .int (Int32.ofNat i), .retAddr 0] [] (gW 143 (.inl (1, 1) :: X)) M 52 0 0 Q) ?_ (fun i hi ih => ?_) 0 (by omega)
  rotate_left
  · refine wp_sound [52] 60 _ _ _ _ _ _ _ ?_
    refine lt_if (b := 3) rfl rfl (by omega) (by omega) (fun _ => ?_) (fun h => absurd h (by omega))
    refine (a_setting hT hi).use ?_
    refine GoP.eq2 ih ?_ rfl
    rw [i_inc]; rfl
  generalize hs3 : foS N (s1L N S t 10) 3 = s3
  refine wp_sound [78] 60 _ _ _ _ _ _ _ ?_
  refine lt_if (a := 3) (b := 3) rfl rfl (by omega) (by omega) (fun h => absurd h (by omega)) (fun _ => ?_)
  refine up_ind (S := m) (H := fun i => ∀ L4, GoP RO (d + 7) 366 [.ref 0, .long (s3L (fun i w => muleV N S (Int32.ofNat i) (Int32.ofNat w)) 9 s3 i), .retAddr 0, .int (Int32.ofNat i), L4] [] (gW 143 (.inl (1, 1) :: X)) M 78 0 0 Q) ?_ (fun i hi ih => ?_) 0 (by omega) _
  rotate_left
  · intro L4
    refine wp_sound [90] 60 _ _ _ _ _ _ _ ?_
    refine (a_v0 hT).use ?_
    refine lt_if (a := i) (b := m) rfl rfl (by omega) (by omega) (fun _ => ?_) (fun h => absurd h (by omega))
    refine up_ind (S := 9) (H := fun w => GoP RO (d + 7) 366 [.ref 0, .long (foS (fun w => muleV N S (Int32.ofNat i) (Int32.ofNat w)) (s3L (fun i w => muleV N S (Int32.ofNat i) (Int32.ofNat w)) 9 s3 i) w), .retAddr 0, .int (Int32.ofNat i), .int (Int32.ofNat w)] [] (gW 143 (.inl (1, 1) :: X)) M 90 0 0 Q) ?_ (fun w hw ih2 => ?_) 0 (by omega)
    rotate_left
    · refine wp_sound [90] 60 _ _ _ _ _ _ _ ?_
      refine lt_if (b := 9) rfl rfl (by omega) (by omega) (fun _ => ?_) (fun h => absurd h (by omega))
      refine (a_mule hT hR hi (by omega)).use ?_
      refine GoP.eq2 ih2 ?_ rfl
      rw [i_inc]; rfl
    refine wp_sound [78] 60 _ _ _ _ _ _ _ ?_
    refine lt_if (a := 9) (b := 9) rfl rfl (by omega) (by omega) (fun h => absurd h (by omega)) (fun _ => ?_)
    refine GoP.eq2 (ih (.int (Int32.ofNat 9))) ?_ rfl
    rw [i_inc]; rfl
  intro L4
  generalize hs4 : s3L (fun i w => muleV N S (Int32.ofNat i) (Int32.ofNat w)) 9 s3 m = s4
  refine wp_sound [126] 60 _ _ _ _ _ _ _ ?_
  refine (a_v0 hT).use ?_
  refine lt_if (a := m) (b := m) rfl rfl (by omega) (by omega) (fun h => absurd h (by omega)) (fun _ => ?_)
  refine up_ind (S := S) (H := fun i => ∀ L4, GoP RO (d + 7) 366 [.ref 0, .long (s3L (fun i w => N (63 + 8 * i + w)) 8 s4 i), .retAddr 0, .int (Int32.ofNat i), L4] [] (gW 143 (.inl (1, 1) :: X)) M 126 0 0 Q) ?_ (fun i hi ih => ?_) 0 (by omega) _
  rotate_left
  · intro L4
    refine wp_sound [138] 60 _ _ _ _ _ _ _ ?_
    refine (a_v1 hT).use ?_
    refine lt_if (a := i) (b := S) rfl rfl (by omega) (by omega) (fun _ => ?_) (fun h => absurd h (by omega))
    refine up_ind (S := 8) (H := fun w => GoP RO (d + 7) 366 [.ref 0, .long (foS (fun w => N (63 + 8 * i + w)) (s3L (fun i w => N (63 + 8 * i + w)) 8 s4 i) w), .retAddr 0, .int (Int32.ofNat i), .int (Int32.ofNat w)] [] (gW 143 (.inl (1, 1) :: X)) M 138 0 0 Q) ?_ (fun w hw ih2 => ?_) 0 (by omega)
    rotate_left
    · refine wp_sound [138] 60 _ _ _ _ _ _ _ ?_
      refine lt_if (b := 8) rfl rfl (by omega) (by omega) (fun _ => ?_) (fun h => absurd h (by omega))
      refine (a_sack hT hR hi hw).use ?_
      refine GoP.eq2 ih2 ?_ rfl
      rw [i_inc]; rfl
    refine wp_sound [126] 60 _ _ _ _ _ _ _ ?_
    refine lt_if (a := 8) (b := 8) rfl rfl (by omega) (by omega) (fun h => absurd h (by omega)) (fun _ => ?_)
    refine GoP.eq2 (ih (.int (Int32.ofNat 8))) ?_ rfl
    rw [i_inc]; rfl
  intro L5
  generalize hs5 : s3L (fun i w => N (63 + 8 * i + w)) 8 s4 S = s5
  refine wp_sound [174] 60 _ _ _ _ _ _ _ ?_
  refine (a_v1 hT).use ?_
  refine lt_if (a := S) (b := S) rfl rfl (by omega) (by omega) (fun h => absurd h (by omega)) (fun _ => ?_)
  refine up_ind (S := t) (H := fun i => GoP RO (d + 7) 366 [.ref 0, .long (s5L N s5 i), .retAddr 0, .int (Int32.ofNat i), L5] [] (gW 143 (.inl (1, 1) :: X)) M 174 0 0 Q) ?_ (fun i hi ih => ?_) 0 (by omega)
  rotate_left
  · refine wp_sound [174] 60 _ _ _ _ _ _ _ ?_
    refine (a_v6 hT).use ?_
    refine lt_if (a := i) (b := t) rfl rfl (by omega) (by omega) (fun _ => ?_) (fun h => absurd h (by omega))
    refine (a_stage (w := 0) hT hR hi (by omega)).use ?_
    refine (a_stage (w := 1) hT hR hi (by omega)).use ?_
    refine GoP.eq2 ih ?_ rfl
    rw [i_inc]; rfl
  refine wp_sound [] 60 _ _ _ _ _ _ _ ?_
  refine (a_v6 hT).use ?_
  refine lt_if (a := t) (b := t) rfl rfl (by omega) (by omega) (fun h => absurd h (by omega)) (fun _ => ?_)
  rw [sumL, hs3, hs4, hs5] at hQ
  exact hQ
end ASK
