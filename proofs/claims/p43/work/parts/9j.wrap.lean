/-! the law draws numbers; its wrappers -/
theorem ushr9 (y : Int32) : ∃ n : Nat, n < 8388608 ∧ (y.toUInt32 >>> (Int32.toUInt32 9 &&& Int32.toUInt32 31)).toInt32 = Int32.ofNat n := by
  refine ⟨(y.toUInt32 >>> (Int32.toUInt32 9 &&& Int32.toUInt32 31)).toNat, ?_, ?_⟩
  · rw [show Int32.toUInt32 9 &&& Int32.toUInt32 31 = 9 from by decide, UInt32.toNat_shiftRight, show UInt32.toNat 9 % 32 = 9 from by decide, Nat.shiftRight_eq_div_pow]
    have := y.toUInt32.toNat_lt
    omega
  · generalize y.toUInt32 >>> (Int32.toUInt32 9 &&& Int32.toUInt32 31) = u
    show u.toInt32 = (UInt32.ofNat u.toNat).toInt32
    rw [UInt32.ofNat_toNat]
theorem rem_nat {n k : Nat} (hn : n < 2147483648) (hk : 0 < k) (hk2 : k < 2147483648) : Int32.ofNat n % Int32.ofNat k = Int32.ofNat (n % k) := by
  have h1 := Nat.mod_lt n hk
  have h2 := Nat.mod_le n k
  apply Int32.toInt_inj.mp
  rw [Int32.toInt_mod, Int32.toInt_ofNat_of_lt (by omega), Int32.toInt_ofNat_of_lt (by omega), Int32.toInt_ofNat_of_lt (by omega), ← Int.ofNat_tmod]
theorem ne_zero {k : Nat} (hk : 0 < k) (hk2 : k < 1000000) : ¬ Int32.ofNat k = 0 := fun h => by
  have := i_inj (by omega) (by omega) (h.trans (show (0 : Int32) = Int32.ofNat 0 from rfl))
  omega
theorem div_nat {n k : Nat} (hn : n < 2147483648) (hk : 0 < k) (hk2 : k < 2147483648) : Int32.ofNat n / Int32.ofNat k = Int32.ofNat (n / k) := by
  have h2 := Nat.div_le_self n k
  apply Int32.toInt_inj.mp
  rw [Int32.toInt_div_of_ne_right _ _ (by
    intro h
    have := congrArg Int32.toInt h
    rw [Int32.toInt_ofNat_of_lt (by omega), show Int32.toInt (-1) = -1 from by decide] at this
    omega), Int32.toInt_ofNat_of_lt (by omega), Int32.toInt_ofNat_of_lt (by omega), Int32.toInt_ofNat_of_lt (by omega), ← Int.ofNat_tdiv]
theorem rem_sub {n k : Nat} (hn : n < 2147483648) (hk : 0 < k) (hk2 : k < 2147483648) : Int32.ofNat n - Int32.ofNat n / Int32.ofNat k * Int32.ofNat k = Int32.ofNat (n % k) := by
  have h := Nat.div_add_mod n k
  rw [Nat.mul_comm] at h
  rw [div_nat hn hk hk2, i_mul, i_sub (by omega)]
  exact congrArg Int32.ofNat (by omega)
section NX
variable {RO : List mE} {d : Nat} {X : List sh} {M : mM} {Q : mQ} {m S t nx c : Nat} {N : Nat → Int32}
theorem c_next (hQ : ∀ (n : Nat) (M' : mM), n < 8388608 → (∀ q, q ≠ 145 → M' q = M q) → Q (.inl (some (.int (Int32.ofNat n)))) (gW 143 (.inl (1, 1) :: X)) M' 0 0) : EvP RO (d + 1) 359 [.ref 145] (gW 143 (.inl (1, 1) :: X)) M Q := by
  refine EvP.wp [] 60 rfl ?_
  refine ⟨0, rfl, by omega, ?_⟩
  refine ⟨0, rfl, by omega, ?_⟩
  refine ⟨0, rfl, by omega, ?_⟩
  refine ⟨0, rfl, by omega, ?_⟩
  refine ⟨0, rfl, by omega, ?_⟩
  refine ⟨0, rfl, by omega, ?_⟩
  generalize hM2 : upM (upM M 145 (upd (M 145) 0 (M 145 0 * 1103515245 + 12345))) 145
      (upd (upM M 145 (upd (M 145) 0 (M 145 0 * 1103515245 + 12345)) 145) 0
        (upM M 145 (upd (M 145) 0 (M 145 0 * 1103515245 + 12345)) 145 0 ^^^
          ((upM M 145 (upd (M 145) 0 (M 145 0 * 1103515245 + 12345)) 145 0).toUInt32 >>>
              (Int32.toUInt32 15 &&& Int32.toUInt32 31)).toInt32)) = M2
  obtain ⟨n, hn, e⟩ := ushr9 (M2 145 0)
  have h9 : ∀ q, q ≠ 145 → M2 q = M q := fun q hq => by rw [← hM2, upM_ne hq, upM_ne hq]
  exact Q_of (hQ n M2 hn h9) (by rw [← e]) rfl
/-- a change through a wrapper: a number tells what was thrown -/
def wCh (Q : mQ) (G : List sh) (M : mM) (nx c : Nat) (e : Int32 → Int32) (u : Int32 × Int32) (N' : Nat → Int32) (m' S' t' : Nat) : Prop := (u.1 ≠ 0 → Q (.inl (some (.int (e u.1)))) G M 1 6) ∧ (u.1 = 0 → ∀ M', TrN M' 12 N' m' S' t' → FrH M nx c M' → Q (.inl (some (.int u.2))) G M' 0 0)
theorem wCh.no {Q : mQ} {G : List sh} {M : mM} {nx c m' S' t' : Nat} {e : Int32 → Int32} {u : Int32 × Int32} {N' : Nat → Int32} {k x z : Int32} (hu : u = (k, x)) (hk : k ≠ 0) (hz : e k = z) (h : Q (.inl (some (.int z))) G M 1 6) : wCh Q G M nx c e u N' m' S' t' := by
  subst hu
  exact ⟨fun _ => by rw [hz]; exact h, fun h9 => absurd h9 hk⟩
theorem wCh.yes {Q : mQ} {G : List sh} {M : mM} {nx c m' S' t' : Nat} {e : Int32 → Int32} {u : Int32 × Int32} {N' : Nat → Int32} {x : Int32} (hu : u = (0, x)) (h : ∀ M', TrN M' 12 N' m' S' t' → FrH M nx c M' → Q (.inl (some (.int x))) G M' 0 0) : wCh Q G M nx c e u N' m' S' t' := by
  subst hu
  exact ⟨fun h9 => absurd rfl h9, fun _ => h⟩
def zPack (k : Int32) : Int32 := bif decide (k = 1) then -5 else bif decide (k = 2) then -2 else -3
def zNI (k : Int32) : Int32 := bif decide (k = 1) then -5 else -3
def zAI (k : Int32) : Int32 := bif decide (k = 1) then -2 else -3
def zN (_ : Int32) : Int32 := -5
def zI (_ : Int32) : Int32 := -9999
def zA (_ : Int32) : Int32 := -2
theorem w_added {kd w v : Int32} (hT : TrN M 12 N m S t) (hR : rOk N m S t) (hH : I_his M nx c) (hQ : wCh Q (gW 143 (.inl (1, 1) :: X)) M nx c zAI (u_addSack S kd w v) (bringsN N S kd w v) m (S + 1) (t)) : EvP RO (d + 8) 354 [.ref 0, .int kd, .int w, .int v] (gW 143 (.inl (1, 1) :: X)) M Q := by
  refine EvP.wp [] 60 rfl ?_
  refine q_addSack hT hR hH ⟨fun h => ?_, fun h M1 t1 f1 => hQ.2 h M1 t1 f1⟩
  have h9 := hQ.1 h
  rw [zAI] at h9
  rw [eAI]
  cases hd : decide ((u_addSack S kd w v).1 = 1) with
  | true => rw [hd] at h9; exact h9
  | false => rw [hd] at h9; exact h9
theorem w_dropped {v : Int32} (hT : TrN M 12 N m S t) (hR : rOk N m S t) (hH : I_his M nx c) (hQ : wCh Q (gW 143 (.inl (1, 1) :: X)) M nx c zN (u_drop N t v) (dropF (upd N 5 (Int32.ofNat (t - 1))) (191 + 2 * v.toNatClampNeg) (191 + 2 * (t - 1))) m (S) (t - 1)) : EvP RO (d + 8) 355 [.ref 0, .int v] (gW 143 (.inl (1, 1) :: X)) M Q := by
  refine EvP.wp [] 60 rfl ?_
  refine q_dropStage hT hR hH ⟨fun h => ?_, fun h M1 t1 f1 => hQ.2 h M1 t1 f1⟩
  have h9 := hQ.1 h
  exact h9
theorem w_filled {v : Int32} (hT : TrN M 12 N m S t) (hR : rOk N m S t) (hH : I_his M nx c) (hQ : wCh Q (gW 143 (.inl (1, 1) :: X)) M nx c zN (u_fill N S v) (fillN v.toNatClampNeg S 16 N) m (S) (t)) : EvP RO (d + 8) 356 [.ref 0, .int v] (gW 143 (.inl (1, 1) :: X)) M Q := by
  refine EvP.wp [] 60 rfl ?_
  refine q_fill hT hR hH ⟨fun h => ?_, fun h M1 t1 f1 => hQ.2 h M1 t1 f1⟩
  have h9 := hQ.1 h
  exact h9
theorem w_packed {v w x : Int32} (hT : TrN M 12 N m S t) (hR : rOk N m S t) (hH : I_his M nx c) (hQ : wCh Q (gW 143 (.inl (1, 1) :: X)) M nx c zPack (u_pack N S v w x) (packN N v.toNatClampNeg w x) m (S) (t)) : EvP RO (d + 8) 360 [.ref 0, .int v, .int w, .int x] (gW 143 (.inl (1, 1) :: X)) M Q := by
  refine EvP.wp [] 60 rfl ?_
  refine q_pack hT hR hH ⟨fun h => ?_, fun h M1 t1 f1 => hQ.2 h M1 t1 f1⟩
  have h9 := hQ.1 h
  rw [zPack] at h9
  rw [ePack]
  cases hd : decide ((u_pack N S v w x).1 = 1) with
  | true => rw [hd] at h9; exact h9
  | false =>
    rw [hd] at h9
    cases hd2 : decide ((u_pack N S v w x).1 = 2) with
    | true => rw [hd2] at h9; exact h9
    | false => rw [hd2] at h9; exact h9
theorem w_rested {v : Int32} (hT : TrN M 12 N m S t) (hR : rOk N m S t) (hH : I_his M nx c) (hQ : wCh Q (gW 143 (.inl (1, 1) :: X)) M nx c zAI (u_rest N m v) (restN m N v.toNatClampNeg) m (S) (t)) : EvP RO (d + 8) 361 [.ref 0, .int v] (gW 143 (.inl (1, 1) :: X)) M Q := by
  refine EvP.wp [] 60 rfl ?_
  refine q_rest hT hR hH ⟨fun h => ?_, fun h M1 t1 f1 => hQ.2 h M1 t1 f1⟩
  have h9 := hQ.1 h
  rw [zAI] at h9
  rw [eAI]
  cases hd : decide ((u_rest N m v).1 = 1) with
  | true => rw [hd] at h9; exact h9
  | false => rw [hd] at h9; exact h9
theorem w_setTo {w v : Int32} (hT : TrN M 12 N m S t) (hR : rOk N m S t) (hH : I_his M nx c) (hQ : wCh Q (gW 143 (.inl (1, 1) :: X)) M nx c zA (u_set N w v) (upd N w.toNatClampNeg v) m (S) (t)) : EvP RO (d + 8) 363 [.ref 0, .int w, .int v] (gW 143 (.inl (1, 1) :: X)) M Q := by
  refine EvP.wp [] 60 rfl ?_
  refine q_set hT hR hH ⟨fun h => ?_, fun h M1 t1 f1 => hQ.2 h M1 t1 f1⟩
  have h9 := hQ.1 h
  exact h9
theorem w_shifted {v : Int32} (hT : TrN M 12 N m S t) (hR : rOk N m S t) (hH : I_his M nx c) (hQ : wCh Q (gW 143 (.inl (1, 1) :: X)) M nx c zNI (u_shift N S v) (shN N v.toNatClampNeg) m (S) (t)) : EvP RO (d + 8) 364 [.ref 0, .int v] (gW 143 (.inl (1, 1) :: X)) M Q := by
  refine EvP.wp [] 60 rfl ?_
  refine q_shift hT hR hH ⟨fun h => ?_, fun h M1 t1 f1 => hQ.2 h M1 t1 f1⟩
  have h9 := hQ.1 h
  rw [zNI] at h9
  rw [eNI]
  cases hd : decide ((u_shift N S v).1 = 1) with
  | true => rw [hd] at h9; exact h9
  | false => rw [hd] at h9; exact h9
theorem w_staged {kd n : Int32} (hT : TrN M 12 N m S t) (hR : rOk N m S t) (hH : I_his M nx c) (hQ : wCh Q (gW 143 (.inl (1, 1) :: X)) M nx c zAI (u_addStage t kd n) (leadsN N t kd n) m (S) (t + 1)) : EvP RO (d + 8) 365 [.ref 0, .int kd, .int n] (gW 143 (.inl (1, 1) :: X)) M Q := by
  refine EvP.wp [] 60 rfl ?_
  refine q_addStage hT hR hH ⟨fun h => ?_, fun h M1 t1 f1 => hQ.2 h M1 t1 f1⟩
  have h9 := hQ.1 h
  rw [zAI] at h9
  rw [eAI]
  cases hd : decide ((u_addStage t kd n).1 = 1) with
  | true => rw [hd] at h9; exact h9
  | false => rw [hd] at h9; exact h9
theorem w_unpacked {v : Int32} (hT : TrN M 12 N m S t) (hR : rOk N m S t) (hH : I_his M nx c) (hQ : wCh Q (gW 143 (.inl (1, 1) :: X)) M nx c zNI (u_unpack N S v) (leaveN N v.toNatClampNeg 0) m (S) (t)) : EvP RO (d + 8) 370 [.ref 0, .int v] (gW 143 (.inl (1, 1) :: X)) M Q := by
  refine EvP.wp [] 60 rfl ?_
  refine q_unpack hT hR hH ⟨fun h => ?_, fun h M1 t1 f1 => hQ.2 h M1 t1 f1⟩
  have h9 := hQ.1 h
  rw [zNI] at h9
  rw [eNI]
  cases hd : decide ((u_unpack N S v).1 = 1) with
  | true => rw [hd] at h9; exact h9
  | false => rw [hd] at h9; exact h9
theorem w_went {G0 : Nat → Int32} (hT : TrN M 12 N m S t) (hR : rOk N m S t) (hH : I_his M nx c) (hQ : wCh Q (gW 143 (.inl (1, 1) :: X)) M nx c zI (u_trip N (trN G0 N m S t) m S) (trN G0 N m S t) m (S) (t)) : EvP RO (d + 9) 371 [.ref 0] (gW 143 (.inl (1, 1) :: X)) M Q := by
  refine EvP.wp [] 60 rfl ?_
  refine q_trip hT hR hH ⟨fun h => ?_, fun h M1 t1 f1 => hQ.2 h M1 t1 f1⟩
  have h9 := hQ.1 h
  exact h9
theorem w_undone {m0 S0 t0 : Nat} {N0 : Nat → Int32} (hT : TrN M 12 N m S t) (hH : I_his M nx c) (h0 : 0 < c) (hK : TrN M (51 + 9 * laN nx) N0 m0 S0 t0) : EvR RO (d + 8) 369 [.ref 0] (gW 143 (.inl (1, 1) :: X)) M (some (.int (Int32.ofNat (c - 1)))) (bakM M nx c) := by
  refine EvP.wp [] 60 rfl ?_
  refine (q_undo hT hH h0 hK).use ?_
  exact ⟨rfl, rfl, rfl, rfl, rfl⟩
end NX
