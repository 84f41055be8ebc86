/-! quotients that are numbers; worth of loads, filled -/
theorem vfb64_of {r : UInt64} (h : FP.Core.dIsNaN r = false) : vfb64 r = true := by
  have h1 : ¬ (9218868437227405312 < r.toNat % 2 ^ 63) := fun h2 => by
    rw [(FP.Core.isNaN_bits r).mpr h2] at h
    cases h
  refine decide_eq_true ?_
  rw [UInt64.le_iff_toNat_le, UInt64.toNat_and]
  show r.toNat &&& (2 ^ 63 - 1) ≤ 9218868437227405312
  rw [Nat.and_two_pow_sub_one_eq_mod]
  exact Nat.le_of_not_lt h1
theorem vfb32_of {r : UInt32} (h : FP.Core.fIsNaN r = false) : vfb32 r = true := by
  have h1 : ¬ (2139095040 < r.toNat % 2 ^ 31) := fun h2 => by
    rw [(FP.Core.isNaN_bits32 r).mpr h2] at h
    cases h
  refine decide_eq_true ?_
  rw [UInt32.le_iff_toNat_le, UInt32.toNat_and]
  show r.toNat &&& (2 ^ 31 - 1) ≤ 2139095040
  rw [Nat.and_two_pow_sub_one_eq_mod]
  exact Nat.le_of_not_lt h1
theorem dnn_fin {a : UInt64} (h : FP.Core.DFin a) : FP.Core.dIsNaN a = false := by
  cases hb : FP.Core.dIsNaN a with
  | false => rfl
  | true =>
    have h1 := (FP.Core.isNaN_bits a).mp hb
    have h2 := (FP.Core.fin_bits a).mp h
    omega
theorem fnn_fin {a : UInt32} (h : FP.Core.FFin a) : FP.Core.fIsNaN a = false := by
  cases hb : FP.Core.fIsNaN a with
  | false => rfl
  | true =>
    have h1 := (FP.Core.isNaN_bits32 a).mp hb
    have h2 := (FP.Core.fin_bits32 a).mp h
    omega
theorem ddiv_ok {a b : Int32} (h : ¬ b = 0) : vfb64 (FP.ddiv (FP.i2d a) (FP.i2d b)) = true := by
  refine vfb64_of ?_
  show FP.Core.dIsNaN (FP.Core.ddiv (FP.Core.i2d a) (FP.Core.i2d b)) = false
  refine FP.Core.ddiv_out (dnn_fin (FP.Core.i2d_fin a)) (FP.Core.i2d_fin b) (fun hz => ?_)
  exact FP.Core.i2d_ne_zero h ((FP.Core.zero_bits2 _).mp hz)
theorem fdiv_ok {a b : Int32} (h : ¬ b = 0) : vfb32 (FP.fdiv (FP.i2f a) (FP.i2f b)) = true := by
  refine vfb32_of ?_
  show FP.Core.fIsNaN (FP.Core.fdiv (FP.Core.i2f a) (FP.Core.i2f b)) = false
  refine FP.Core.fdiv_out (fnn_fin (FP.Core.i2f_fin a)) (FP.Core.i2f_fin b) (fun hz => ?_)
  exact FP.Core.i2f_ne_zero h ((FP.Core.zero_bits232 _).mp hz)
theorem f2d_fdiv_ok {a b : Int32} (h : ¬ b = 0) : vfb64 (FP.f2d (FP.fdiv (FP.i2f a) (FP.i2f b))) = true := by
  refine vfb64_of ?_
  have h9 : FP.Core.fIsNaN (FP.fdiv (FP.i2f a) (FP.i2f b)) = false := by
    show FP.Core.fIsNaN (FP.Core.fdiv (FP.Core.i2f a) (FP.Core.i2f b)) = false
    refine FP.Core.fdiv_out (fnn_fin (FP.Core.i2f_fin a)) (FP.Core.i2f_fin b) (fun hz => ?_)
    exact FP.Core.i2f_ne_zero h ((FP.Core.zero_bits232 _).mp hz)
  rw [FP.f2d_core h9]
  exact FP.Core.f2d_out h9
def allV (N : Nat → Int32) (S : Nat) : Nat → Int32 := sm (fun k => vOn N (Int32.ofNat k) S)
def allL (N : Nat → Int32) (S : Nat) : Nat → Int32 := sm (fun k => loadN N (Int32.ofNat k) S)
def wolN (N : Nat → Int32) (m S : Nat) : UInt64 := bif decide (allL N S m = 0) then FP.dconst0 else FP.ddiv (FP.i2d (allV N S m)) (FP.i2d (allL N S m))
def filN (N : Nat → Int32) (i S : Nat) : UInt32 := bif decide (bearN N i = 0) then FP.fconst0 else FP.fdiv (FP.i2f (loadN N (Int32.ofNat i) S)) (FP.i2f (bearN N i))
theorem filN_ok {N : Nat → Int32} {i S : Nat} : vfb64 (FP.f2d (filN N i S)) = true := by
  rw [filN]
  by_cases h : bearN N i = 0
  · rw [decide_eq_true h, cond_true]; decide +kernel
  · rw [decide_eq_false h]; exact f2d_fdiv_ok h
section MDL
variable {RO : List mE} {d sb : Nat} {ext : List sh} {M : mM} {Q : mQ}
end MDL
