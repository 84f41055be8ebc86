/-! what is left to be shown of a stretch of code -/
abbrev mKt : Type := List Value → List Value → List sh → mM → Nat → Nat → Nat → Prop
def WI (f : mSf) : Prop := ∀ (RO : List mE) (x : List Nat) (v : Value) (L st : List Value) (L' st' : List Value) (W0 W9 : List mE), f RO x v L st [] = some (L', st', W0) → f RO x v L st W9 = some (L', st', W9)
theorem wi_iadd : WI sf_iadd := by
  intro RO x v L st L' st' W0 W9 h
  simp only [sf_iadd, mset_eq, Bool.cond_eq_ite] at h ⊢
  (repeat' (split at h)) <;> first | (cases h; done) | (cases h; rfl) | (cases h; simp_all; done) | (cases h; simp_all; intro h9; exact absurd h9 (Int32.not_lt.mpr ‹_›)) | (cases h; simp_all; intro h9; exact absurd ‹_› (Int32.not_lt.mpr h9))
theorem wi_isub : WI sf_isub := by
  intro RO x v L st L' st' W0 W9 h
  simp only [sf_isub, mset_eq, Bool.cond_eq_ite] at h ⊢
  (repeat' (split at h)) <;> first | (cases h; done) | (cases h; rfl) | (cases h; simp_all; done) | (cases h; simp_all; intro h9; exact absurd h9 (Int32.not_lt.mpr ‹_›)) | (cases h; simp_all; intro h9; exact absurd ‹_› (Int32.not_lt.mpr h9))
theorem wi_imul : WI sf_imul := by
  intro RO x v L st L' st' W0 W9 h
  simp only [sf_imul, mset_eq, Bool.cond_eq_ite] at h ⊢
  (repeat' (split at h)) <;> first | (cases h; done) | (cases h; rfl) | (cases h; simp_all; done) | (cases h; simp_all; intro h9; exact absurd h9 (Int32.not_lt.mpr ‹_›)) | (cases h; simp_all; intro h9; exact absurd ‹_› (Int32.not_lt.mpr h9))
theorem wi_iand : WI sf_iand := by
  intro RO x v L st L' st' W0 W9 h
  simp only [sf_iand, mset_eq, Bool.cond_eq_ite] at h ⊢
  (repeat' (split at h)) <;> first | (cases h; done) | (cases h; rfl) | (cases h; simp_all; done) | (cases h; simp_all; intro h9; exact absurd h9 (Int32.not_lt.mpr ‹_›)) | (cases h; simp_all; intro h9; exact absurd ‹_› (Int32.not_lt.mpr h9))
theorem wi_ior : WI sf_ior := by
  intro RO x v L st L' st' W0 W9 h
  simp only [sf_ior, mset_eq, Bool.cond_eq_ite] at h ⊢
  (repeat' (split at h)) <;> first | (cases h; done) | (cases h; rfl) | (cases h; simp_all; done) | (cases h; simp_all; intro h9; exact absurd h9 (Int32.not_lt.mpr ‹_›)) | (cases h; simp_all; intro h9; exact absurd ‹_› (Int32.not_lt.mpr h9))
theorem wi_ishl : WI sf_ishl := by
  intro RO x v L st L' st' W0 W9 h
  simp only [sf_ishl, mset_eq, Bool.cond_eq_ite] at h ⊢
  (repeat' (split at h)) <;> first | (cases h; done) | (cases h; rfl) | (cases h; simp_all; done) | (cases h; simp_all; intro h9; exact absurd h9 (Int32.not_lt.mpr ‹_›)) | (cases h; simp_all; intro h9; exact absurd ‹_› (Int32.not_lt.mpr h9))
theorem wi_ishr : WI sf_ishr := by
  intro RO x v L st L' st' W0 W9 h
  simp only [sf_ishr, mset_eq, Bool.cond_eq_ite] at h ⊢
  (repeat' (split at h)) <;> first | (cases h; done) | (cases h; rfl) | (cases h; simp_all; done) | (cases h; simp_all; intro h9; exact absurd h9 (Int32.not_lt.mpr ‹_›)) | (cases h; simp_all; intro h9; exact absurd ‹_› (Int32.not_lt.mpr h9))
theorem wi_iushr : WI sf_iushr := by
  intro RO x v L st L' st' W0 W9 h
  simp only [sf_iushr, mset_eq, Bool.cond_eq_ite] at h ⊢
  (repeat' (split at h)) <;> first | (cases h; done) | (cases h; rfl) | (cases h; simp_all; done) | (cases h; simp_all; intro h9; exact absurd h9 (Int32.not_lt.mpr ‹_›)) | (cases h; simp_all; intro h9; exact absurd ‹_› (Int32.not_lt.mpr h9))
theorem wi_ineg : WI sf_ineg := by
  intro RO x v L st L' st' W0 W9 h
  simp only [sf_ineg, mset_eq, Bool.cond_eq_ite] at h ⊢
  (repeat' (split at h)) <;> first | (cases h; done) | (cases h; rfl) | (cases h; simp_all; done) | (cases h; simp_all; intro h9; exact absurd h9 (Int32.not_lt.mpr ‹_›)) | (cases h; simp_all; intro h9; exact absurd ‹_› (Int32.not_lt.mpr h9))
theorem wi_i2b : WI sf_i2b := by
  intro RO x v L st L' st' W0 W9 h
  simp only [sf_i2b, mset_eq, Bool.cond_eq_ite] at h ⊢
  (repeat' (split at h)) <;> first | (cases h; done) | (cases h; rfl) | (cases h; simp_all; done) | (cases h; simp_all; intro h9; exact absurd h9 (Int32.not_lt.mpr ‹_›)) | (cases h; simp_all; intro h9; exact absurd ‹_› (Int32.not_lt.mpr h9))
theorem wi_i2c : WI sf_i2c := by
  intro RO x v L st L' st' W0 W9 h
  simp only [sf_i2c, mset_eq, Bool.cond_eq_ite] at h ⊢
  (repeat' (split at h)) <;> first | (cases h; done) | (cases h; rfl) | (cases h; simp_all; done) | (cases h; simp_all; intro h9; exact absurd h9 (Int32.not_lt.mpr ‹_›)) | (cases h; simp_all; intro h9; exact absurd ‹_› (Int32.not_lt.mpr h9))
theorem wi_i2l : WI sf_i2l := by
  intro RO x v L st L' st' W0 W9 h
  simp only [sf_i2l, mset_eq, Bool.cond_eq_ite] at h ⊢
  (repeat' (split at h)) <;> first | (cases h; done) | (cases h; rfl) | (cases h; simp_all; done) | (cases h; simp_all; intro h9; exact absurd h9 (Int32.not_lt.mpr ‹_›)) | (cases h; simp_all; intro h9; exact absurd ‹_› (Int32.not_lt.mpr h9))
theorem wi_i2f : WI sf_i2f := by
  intro RO x v L st L' st' W0 W9 h
  simp only [sf_i2f, mset_eq, Bool.cond_eq_ite] at h ⊢
  (repeat' (split at h)) <;> first | (cases h; done) | (cases h; rfl) | (cases h; simp_all; done) | (cases h; simp_all; intro h9; exact absurd h9 (Int32.not_lt.mpr ‹_›)) | (cases h; simp_all; intro h9; exact absurd ‹_› (Int32.not_lt.mpr h9))
theorem wi_i2d : WI sf_i2d := by
  intro RO x v L st L' st' W0 W9 h
  simp only [sf_i2d, mset_eq, Bool.cond_eq_ite] at h ⊢
  (repeat' (split at h)) <;> first | (cases h; done) | (cases h; rfl) | (cases h; simp_all; done) | (cases h; simp_all; intro h9; exact absurd h9 (Int32.not_lt.mpr ‹_›)) | (cases h; simp_all; intro h9; exact absurd ‹_› (Int32.not_lt.mpr h9))
theorem wi_lcmp : WI sf_lcmp := by
  intro RO x v L st L' st' W0 W9 h
  simp only [sf_lcmp, mset_eq, Bool.cond_eq_ite] at h ⊢
  (repeat' (split at h)) <;> first | (cases h; done) | (cases h; rfl) | (cases h; simp_all; done) | (cases h; simp_all; intro h9; exact absurd h9 (Int32.not_lt.mpr ‹_›)) | (cases h; simp_all; intro h9; exact absurd ‹_› (Int32.not_lt.mpr h9))
theorem wi_fcmp : WI sf_fcmp := by
  intro RO x v L st L' st' W0 W9 h
  simp only [sf_fcmp, mset_eq, Bool.cond_eq_ite] at h ⊢
  (repeat' (split at h)) <;> first | (cases h; done) | (cases h; rfl) | (cases h; simp_all; done) | (cases h; simp_all; intro h9; exact absurd h9 (Int32.not_lt.mpr ‹_›)) | (cases h; simp_all; intro h9; exact absurd ‹_› (Int32.not_lt.mpr h9))
theorem wi_dcmp : WI sf_dcmp := by
  intro RO x v L st L' st' W0 W9 h
  simp only [sf_dcmp, mset_eq, Bool.cond_eq_ite] at h ⊢
  (repeat' (split at h)) <;> first | (cases h; done) | (cases h; rfl) | (cases h; simp_all; done) | (cases h; simp_all; intro h9; exact absurd h9 (Int32.not_lt.mpr ‹_›)) | (cases h; simp_all; intro h9; exact absurd ‹_› (Int32.not_lt.mpr h9))
theorem wi_iconst : WI sf_iconst := by
  intro RO x v L st L' st' W0 W9 h
  simp only [sf_iconst, mset_eq, Bool.cond_eq_ite] at h ⊢
  (repeat' (split at h)) <;> first | (cases h; done) | (cases h; rfl) | (cases h; simp_all; done) | (cases h; simp_all; intro h9; exact absurd h9 (Int32.not_lt.mpr ‹_›)) | (cases h; simp_all; intro h9; exact absurd ‹_› (Int32.not_lt.mpr h9))
theorem wi_bipush : WI sf_bipush := by
  intro RO x v L st L' st' W0 W9 h
  simp only [sf_bipush, mset_eq, Bool.cond_eq_ite] at h ⊢
  (repeat' (split at h)) <;> first | (cases h; done) | (cases h; rfl) | (cases h; simp_all; done) | (cases h; simp_all; intro h9; exact absurd h9 (Int32.not_lt.mpr ‹_›)) | (cases h; simp_all; intro h9; exact absurd ‹_› (Int32.not_lt.mpr h9))
theorem wi_sipush : WI sf_sipush := by
  intro RO x v L st L' st' W0 W9 h
  simp only [sf_sipush, mset_eq, Bool.cond_eq_ite] at h ⊢
  (repeat' (split at h)) <;> first | (cases h; done) | (cases h; rfl) | (cases h; simp_all; done) | (cases h; simp_all; intro h9; exact absurd h9 (Int32.not_lt.mpr ‹_›)) | (cases h; simp_all; intro h9; exact absurd ‹_› (Int32.not_lt.mpr h9))
theorem wi_fconst0 : WI sf_fconst0 := by
  intro RO x v L st L' st' W0 W9 h
  simp only [sf_fconst0, mset_eq, Bool.cond_eq_ite] at h ⊢
  (repeat' (split at h)) <;> first | (cases h; done) | (cases h; rfl) | (cases h; simp_all; done) | (cases h; simp_all; intro h9; exact absurd h9 (Int32.not_lt.mpr ‹_›)) | (cases h; simp_all; intro h9; exact absurd ‹_› (Int32.not_lt.mpr h9))
theorem wi_dconst0 : WI sf_dconst0 := by
  intro RO x v L st L' st' W0 W9 h
  simp only [sf_dconst0, mset_eq, Bool.cond_eq_ite] at h ⊢
  (repeat' (split at h)) <;> first | (cases h; done) | (cases h; rfl) | (cases h; simp_all; done) | (cases h; simp_all; intro h9; exact absurd h9 (Int32.not_lt.mpr ‹_›)) | (cases h; simp_all; intro h9; exact absurd ‹_› (Int32.not_lt.mpr h9))
theorem wi_ldcS : WI sf_ldcS := by
  intro RO x v L st L' st' W0 W9 h
  simp only [sf_ldcS, mset_eq, Bool.cond_eq_ite] at h ⊢
  (repeat' (split at h)) <;> first | (cases h; done) | (cases h; rfl) | (cases h; simp_all; done) | (cases h; simp_all; intro h9; exact absurd h9 (Int32.not_lt.mpr ‹_›)) | (cases h; simp_all; intro h9; exact absurd ‹_› (Int32.not_lt.mpr h9))
theorem wi_dup : WI sf_dup := by
  intro RO x v L st L' st' W0 W9 h
  simp only [sf_dup, mset_eq, Bool.cond_eq_ite] at h ⊢
  (repeat' (split at h)) <;> first | (cases h; done) | (cases h; rfl) | (cases h; simp_all; done) | (cases h; simp_all; intro h9; exact absurd h9 (Int32.not_lt.mpr ‹_›)) | (cases h; simp_all; intro h9; exact absurd ‹_› (Int32.not_lt.mpr h9))
theorem wi_pop : WI sf_pop := by
  intro RO x v L st L' st' W0 W9 h
  simp only [sf_pop, mset_eq, Bool.cond_eq_ite] at h ⊢
  (repeat' (split at h)) <;> first | (cases h; done) | (cases h; rfl) | (cases h; simp_all; done) | (cases h; simp_all; intro h9; exact absurd h9 (Int32.not_lt.mpr ‹_›)) | (cases h; simp_all; intro h9; exact absurd ‹_› (Int32.not_lt.mpr h9))
theorem wi_dup_x1 : WI sf_dup_x1 := by
  intro RO x v L st L' st' W0 W9 h
  simp only [sf_dup_x1, mset_eq, Bool.cond_eq_ite] at h ⊢
  (repeat' (split at h)) <;> first | (cases h; done) | (cases h; rfl) | (cases h; simp_all; done) | (cases h; simp_all; intro h9; exact absurd h9 (Int32.not_lt.mpr ‹_›)) | (cases h; simp_all; intro h9; exact absurd ‹_› (Int32.not_lt.mpr h9))
theorem wi_dup2 : WI sf_dup2 := by
  intro RO x v L st L' st' W0 W9 h
  simp only [sf_dup2, mset_eq, Bool.cond_eq_ite] at h ⊢
  (repeat' (split at h)) <;> first | (cases h; done) | (cases h; rfl) | (cases h; simp_all; done) | (cases h; simp_all; intro h9; exact absurd h9 (Int32.not_lt.mpr ‹_›)) | (cases h; simp_all; intro h9; exact absurd ‹_› (Int32.not_lt.mpr h9))
theorem wi_iload : WI sf_iload := by
  intro RO x v L st L' st' W0 W9 h
  simp only [sf_iload, mset_eq, Bool.cond_eq_ite] at h ⊢
  (repeat' (split at h)) <;> first | (cases h; done) | (cases h; rfl) | (cases h; simp_all; done) | (cases h; simp_all; intro h9; exact absurd h9 (Int32.not_lt.mpr ‹_›)) | (cases h; simp_all; intro h9; exact absurd ‹_› (Int32.not_lt.mpr h9))
theorem wi_aload : WI sf_aload := by
  intro RO x v L st L' st' W0 W9 h
  simp only [sf_aload, mset_eq, Bool.cond_eq_ite] at h ⊢
  (repeat' (split at h)) <;> first | (cases h; done) | (cases h; rfl) | (cases h; simp_all; done) | (cases h; simp_all; intro h9; exact absurd h9 (Int32.not_lt.mpr ‹_›)) | (cases h; simp_all; intro h9; exact absurd ‹_› (Int32.not_lt.mpr h9))
theorem wi_fload : WI sf_fload := by
  intro RO x v L st L' st' W0 W9 h
  simp only [sf_fload, mset_eq, Bool.cond_eq_ite] at h ⊢
  (repeat' (split at h)) <;> first | (cases h; done) | (cases h; rfl) | (cases h; simp_all; done) | (cases h; simp_all; intro h9; exact absurd h9 (Int32.not_lt.mpr ‹_›)) | (cases h; simp_all; intro h9; exact absurd ‹_› (Int32.not_lt.mpr h9))
theorem wi_dload : WI sf_dload := by
  intro RO x v L st L' st' W0 W9 h
  simp only [sf_dload, mset_eq, Bool.cond_eq_ite] at h ⊢
  (repeat' (split at h)) <;> first | (cases h; done) | (cases h; rfl) | (cases h; simp_all; done) | (cases h; simp_all; intro h9; exact absurd h9 (Int32.not_lt.mpr ‹_›)) | (cases h; simp_all; intro h9; exact absurd ‹_› (Int32.not_lt.mpr h9))
theorem wi_lload : WI sf_lload := by
  intro RO x v L st L' st' W0 W9 h
  simp only [sf_lload, mset_eq, Bool.cond_eq_ite] at h ⊢
  (repeat' (split at h)) <;> first | (cases h; done) | (cases h; rfl) | (cases h; simp_all; done) | (cases h; simp_all; intro h9; exact absurd h9 (Int32.not_lt.mpr ‹_›)) | (cases h; simp_all; intro h9; exact absurd ‹_› (Int32.not_lt.mpr h9))
theorem wi_istore : WI sf_istore := by
  intro RO x v L st L' st' W0 W9 h
  simp only [sf_istore, mset_eq, Bool.cond_eq_ite] at h ⊢
  (repeat' (split at h)) <;> first | (cases h; done) | (cases h; rfl) | (cases h; simp_all; done) | (cases h; simp_all; intro h9; exact absurd h9 (Int32.not_lt.mpr ‹_›)) | (cases h; simp_all; intro h9; exact absurd ‹_› (Int32.not_lt.mpr h9))
theorem wi_astore : WI sf_astore := by
  intro RO x v L st L' st' W0 W9 h
  simp only [sf_astore, mset_eq, Bool.cond_eq_ite] at h ⊢
  (repeat' (split at h)) <;> first | (cases h; done) | (cases h; rfl) | (cases h; simp_all; done) | (cases h; simp_all; intro h9; exact absurd h9 (Int32.not_lt.mpr ‹_›)) | (cases h; simp_all; intro h9; exact absurd ‹_› (Int32.not_lt.mpr h9))
theorem wi_fstore : WI sf_fstore := by
  intro RO x v L st L' st' W0 W9 h
  simp only [sf_fstore, mset_eq, Bool.cond_eq_ite] at h ⊢
  (repeat' (split at h)) <;> first | (cases h; done) | (cases h; rfl) | (cases h; simp_all; done) | (cases h; simp_all; intro h9; exact absurd h9 (Int32.not_lt.mpr ‹_›)) | (cases h; simp_all; intro h9; exact absurd ‹_› (Int32.not_lt.mpr h9))
theorem wi_dstore : WI sf_dstore := by
  intro RO x v L st L' st' W0 W9 h
  simp only [sf_dstore, mset_eq, Bool.cond_eq_ite] at h ⊢
  (repeat' (split at h)) <;> first | (cases h; done) | (cases h; rfl) | (cases h; simp_all; done) | (cases h; simp_all; intro h9; exact absurd h9 (Int32.not_lt.mpr ‹_›)) | (cases h; simp_all; intro h9; exact absurd ‹_› (Int32.not_lt.mpr h9))
theorem wi_iinc : WI sf_iinc := by
  intro RO x v L st L' st' W0 W9 h
  simp only [sf_iinc, mset_eq, Bool.cond_eq_ite] at h ⊢
  (repeat' (split at h)) <;> first | (cases h; done) | (cases h; rfl) | (cases h; simp_all; done) | (cases h; simp_all; intro h9; exact absurd h9 (Int32.not_lt.mpr ‹_›)) | (cases h; simp_all; intro h9; exact absurd ‹_› (Int32.not_lt.mpr h9))
theorem wi_mmax : WI sf_mmax := by
  intro RO x v L st L' st' W0 W9 h
  simp only [sf_mmax, mset_eq, Bool.cond_eq_ite] at h ⊢
  (repeat' (split at h)) <;> first | (cases h; done) | (cases h; rfl) | (cases h; simp_all; done) | (cases h; simp_all; intro h9; exact absurd h9 (Int32.not_lt.mpr ‹_›)) | (cases h; simp_all; intro h9; exact absurd ‹_› (Int32.not_lt.mpr h9))
theorem wi_mmin : WI sf_mmin := by
  intro RO x v L st L' st' W0 W9 h
  simp only [sf_mmin, mset_eq, Bool.cond_eq_ite] at h ⊢
  (repeat' (split at h)) <;> first | (cases h; done) | (cases h; rfl) | (cases h; simp_all; done) | (cases h; simp_all; intro h9; exact absurd h9 (Int32.not_lt.mpr ‹_›)) | (cases h; simp_all; intro h9; exact absurd ‹_› (Int32.not_lt.mpr h9))
theorem wi_mabs : WI sf_mabs := by
  intro RO x v L st L' st' W0 W9 h
  simp only [sf_mabs, mset_eq, Bool.cond_eq_ite] at h ⊢
  (repeat' (split at h)) <;> first | (cases h; done) | (cases h; rfl) | (cases h; simp_all; done) | (cases h; simp_all; intro h9; exact absurd h9 (Int32.not_lt.mpr ‹_›)) | (cases h; simp_all; intro h9; exact absurd ‹_› (Int32.not_lt.mpr h9))
theorem wi_objInit : WI sf_objInit := by
  intro RO x v L st L' st' W0 W9 h
  simp only [sf_objInit, mset_eq, Bool.cond_eq_ite] at h ⊢
  (repeat' (split at h)) <;> first | (cases h; done) | (cases h; rfl) | (cases h; simp_all; done) | (cases h; simp_all; intro h9; exact absurd h9 (Int32.not_lt.mpr ‹_›)) | (cases h; simp_all; intro h9; exact absurd ‹_› (Int32.not_lt.mpr h9))
theorem wi_ldcI : WI sf_ldcI := by
  intro RO x v L st L' st' W0 W9 h
  simp only [sf_ldcI, mset_eq, Bool.cond_eq_ite] at h ⊢
  (repeat' (split at h)) <;> first | (cases h; done) | (cases h; rfl) | (cases h; simp_all; done) | (cases h; simp_all; intro h9; exact absurd h9 (Int32.not_lt.mpr ‹_›)) | (cases h; simp_all; intro h9; exact absurd ‹_› (Int32.not_lt.mpr h9))
theorem wi_ldcwI : WI sf_ldcwI := by
  intro RO x v L st L' st' W0 W9 h
  simp only [sf_ldcwI, mset_eq, Bool.cond_eq_ite] at h ⊢
  (repeat' (split at h)) <;> first | (cases h; done) | (cases h; rfl) | (cases h; simp_all; done) | (cases h; simp_all; intro h9; exact absurd h9 (Int32.not_lt.mpr ‹_›)) | (cases h; simp_all; intro h9; exact absurd ‹_› (Int32.not_lt.mpr h9))
theorem wi_gsZ : WI sf_gsZ := by
  intro RO x v L st L' st' W0 W9 h
  simp only [sf_gsZ, mset_eq, Bool.cond_eq_ite] at h ⊢
  (repeat' (split at h)) <;> first | (cases h; done) | (cases h; rfl) | (cases h; simp_all; done) | (cases h; simp_all; intro h9; exact absurd h9 (Int32.not_lt.mpr ‹_›)) | (cases h; simp_all; intro h9; exact absurd ‹_› (Int32.not_lt.mpr h9))
theorem wi_gsO : WI sf_gsO := by
  intro RO x v L st L' st' W0 W9 h
  simp only [sf_gsO, mset_eq, Bool.cond_eq_ite] at h ⊢
  (repeat' (split at h)) <;> first | (cases h; done) | (cases h; rfl) | (cases h; simp_all; done) | (cases h; simp_all; intro h9; exact absurd h9 (Int32.not_lt.mpr ‹_›)) | (cases h; simp_all; intro h9; exact absurd ‹_› (Int32.not_lt.mpr h9))
theorem wi_gsT : WI sf_gsT := by
  intro RO x v L st L' st' W0 W9 h
  simp only [sf_gsT, mset_eq, Bool.cond_eq_ite] at h ⊢
  (repeat' (split at h)) <;> first | (cases h; done) | (cases h; rfl) | (cases h; simp_all; done) | (cases h; simp_all; intro h9; exact absurd h9 (Int32.not_lt.mpr ‹_›)) | (cases h; simp_all; intro h9; exact absurd ‹_› (Int32.not_lt.mpr h9))
theorem wi_ixor : WI sf_ixor := by
  intro RO x v L st L' st' W0 W9 h
  simp only [sf_ixor, mset_eq, Bool.cond_eq_ite] at h ⊢
  (repeat' (split at h)) <;> first | (cases h; done) | (cases h; rfl) | (cases h; simp_all; done)
theorem wi_ladd : WI sf_ladd := by
  intro RO x v L st L' st' W0 W9 h
  simp only [sf_ladd, mset_eq, Bool.cond_eq_ite] at h ⊢
  (repeat' (split at h)) <;> first | (cases h; done) | (cases h; rfl) | (cases h; simp_all; done)
theorem wi_lmul : WI sf_lmul := by
  intro RO x v L st L' st' W0 W9 h
  simp only [sf_lmul, mset_eq, Bool.cond_eq_ite] at h ⊢
  (repeat' (split at h)) <;> first | (cases h; done) | (cases h; rfl) | (cases h; simp_all; done)
theorem wi_lstore : WI sf_lstore := by
  intro RO x v L st L' st' W0 W9 h
  simp only [sf_lstore, mset_eq, Bool.cond_eq_ite] at h ⊢
  (repeat' (split at h)) <;> first | (cases h; done) | (cases h; rfl) | (cases h; simp_all; done)
theorem wi_lconst0 : WI sf_lconst0 := by
  intro RO x v L st L' st' W0 W9 h
  simp only [sf_lconst0, mset_eq, Bool.cond_eq_ite] at h ⊢
  (repeat' (split at h)) <;> first | (cases h; done) | (cases h; rfl) | (cases h; simp_all; done)
theorem wi_ldc2L : WI sf_ldc2L := by
  intro RO x v L st L' st' W0 W9 h
  simp only [sf_ldc2L, mset_eq, Bool.cond_eq_ite] at h ⊢
  (repeat' (split at h)) <;> first | (cases h; done) | (cases h; rfl) | (cases h; simp_all; done)
theorem wi_anull : WI sf_anull := by
  intro RO x v L st L' st' W0 W9 h
  simp only [sf_anull, mset_eq, Bool.cond_eq_ite] at h ⊢
  (repeat' (split at h)) <;> first | (cases h; done) | (cases h; rfl) | (cases h; simp_all; done)
theorem wi_at : ∀ (op : Nat) (q : mCk × mSf), mSt[op]? = some q → (Nat.blt op 37 || Nat.blt 42 op) = true → WI q.2
  | 0, _, h, _ => by cases h; exact wi_iadd
  | 1, _, h, _ => by cases h; exact wi_isub
  | 2, _, h, _ => by cases h; exact wi_imul
  | 3, _, h, _ => by cases h; exact wi_iand
  | 4, _, h, _ => by cases h; exact wi_ior
  | 5, _, h, _ => by cases h; exact wi_ishl
  | 6, _, h, _ => by cases h; exact wi_ishr
  | 7, _, h, _ => by cases h; exact wi_iushr
  | 8, _, h, _ => by cases h; exact wi_ineg
  | 9, _, h, _ => by cases h; exact wi_i2b
  | 10, _, h, _ => by cases h; exact wi_i2c
  | 11, _, h, _ => by cases h; exact wi_i2l
  | 12, _, h, _ => by cases h; exact wi_i2f
  | 13, _, h, _ => by cases h; exact wi_i2d
  | 14, _, h, _ => by cases h; exact wi_lcmp
  | 15, _, h, _ => by cases h; exact wi_fcmp
  | 16, _, h, _ => by cases h; exact wi_dcmp
  | 17, _, h, _ => by cases h; exact wi_iconst
  | 18, _, h, _ => by cases h; exact wi_bipush
  | 19, _, h, _ => by cases h; exact wi_sipush
  | 20, _, h, _ => by cases h; exact wi_fconst0
  | 21, _, h, _ => by cases h; exact wi_dconst0
  | 22, _, h, _ => by cases h; exact wi_ldcS
  | 23, _, h, _ => by cases h; exact wi_dup
  | 24, _, h, _ => by cases h; exact wi_pop
  | 25, _, h, _ => by cases h; exact wi_dup_x1
  | 26, _, h, _ => by cases h; exact wi_dup2
  | 27, _, h, _ => by cases h; exact wi_iload
  | 28, _, h, _ => by cases h; exact wi_aload
  | 29, _, h, _ => by cases h; exact wi_fload
  | 30, _, h, _ => by cases h; exact wi_dload
  | 31, _, h, _ => by cases h; exact wi_lload
  | 32, _, h, _ => by cases h; exact wi_istore
  | 33, _, h, _ => by cases h; exact wi_astore
  | 34, _, h, _ => by cases h; exact wi_fstore
  | 35, _, h, _ => by cases h; exact wi_dstore
  | 36, _, h, _ => by cases h; exact wi_iinc
  | 37, _, _, h => by cases h
  | 38, _, _, h => by cases h
  | 39, _, _, h => by cases h
  | 40, _, _, h => by cases h
  | 41, _, _, h => by cases h
  | 42, _, _, h => by cases h
  | 43, _, h, _ => by cases h; exact wi_mmax
  | 44, _, h, _ => by cases h; exact wi_mmin
  | 45, _, h, _ => by cases h; exact wi_mabs
  | 46, _, h, _ => by cases h; exact wi_objInit
  | 47, _, h, _ => by cases h; exact wi_ixor
  | 48, _, h, _ => by cases h; exact wi_ladd
  | 49, _, h, _ => by cases h; exact wi_lmul
  | 50, _, h, _ => by cases h; exact wi_lstore
  | 51, _, h, _ => by cases h; exact wi_lconst0
  | j + 52, _, h, _ => by simp [mSt] at h
theorem wz_at : ∀ q ∈ mZt, WI q.2 := List.forall_mem_cons.mpr ⟨wi_ldcI, List.forall_mem_cons.mpr ⟨wi_ldcwI, List.forall_mem_cons.mpr ⟨wi_gsZ, List.forall_mem_cons.mpr ⟨wi_gsO, List.forall_mem_cons.mpr ⟨wi_gsT, List.forall_mem_cons.mpr ⟨wi_ldc2L, List.forall_mem_cons.mpr ⟨wi_anull, fun _ h => absurd h List.not_mem_nil⟩⟩⟩⟩⟩⟩⟩

def mmem (q : Nat) : List Nat → Bool
  | [] => false
  | a :: l => bif Nat.beq a q then true else mmem q l
def wS (RO : List mE) (op nx : Nat) (x : List Nat) (v : Value) (L st : List Value) (G : List sh) (M : mM) (c s : Nat) (K : mKt) : Prop :=
  bif Nat.blt op 37 || Nat.blt 42 op then (match mSt[op]? with
    | none => False
    | some q => match q.2 RO x v L st [] with
      | some (L', st', _) => K L' st' G M nx c s
      | none => False)
  else bif Nat.blt op 39 then (match x, st with
    | [ci, kf, _], .ref q :: r => (match wget RO G M ci kf q with
      | some v => K L (v :: r) G M nx c s
      | none => False)
    | _, _ => False)
  else bif Nat.blt op 42 then (match x, st with
    | [ci, kf, _, t], u :: .ref q :: r => bif Nat.blt q 1000000 && vkt u t then (match G[q]? with
      | some (.inr (.inl (cj, fs))) => bif Nat.beq ci cj then (match fs[kf]?, u with
        | some (.int _), .int a => K L r G (upM M q (upd (M q) kf a)) nx c s
        | some (.int _), _ => False
        | some _, .int _ => False
        | some _, u => K L r (G.set q (.inr (.inl (ci, fs.set kf u)))) M nx c s
        | none, _ => False) else False
      | _ => False) else False
    | _, _ => False)
  else (match st with
    | .ref q :: r => (match wlen RO G q with
      | some n => K L (.int (Int32.ofNat n) :: r) G M nx c s
      | none => False)
    | _ => False)
def wC (op tT tF : Nat) (L st : List Value) (G : List sh) (M : mM) (c s : Nat) (K : mKt) : Prop :=
  bif Nat.beq op 0 then (match st with
    | .int x :: r => (x = 0 → K L r G M tT c s) ∧ (¬ x = 0 → K L r G M tF c s)
    | _ => False)
  else bif Nat.beq op 1 then (match st with
    | .int x :: r => (x < 0 → K L r G M tT c s) ∧ (¬ x < 0 → K L r G M tF c s)
    | _ => False)
  else bif Nat.beq op 2 then (match st with
    | .int x :: r => (0 < x → K L r G M tT c s) ∧ (¬ 0 < x → K L r G M tF c s)
    | _ => False)
  else bif Nat.beq op 3 then (match st with
    | .int y :: .int x :: r => (x = y → K L r G M tT c s) ∧ (¬ x = y → K L r G M tF c s)
    | _ => False)
  else bif Nat.beq op 4 then (match st with
    | .int y :: .int x :: r => (x < y → K L r G M tT c s) ∧ (¬ x < y → K L r G M tF c s)
    | _ => False)
  else bif Nat.beq op 5 then (match st with
    | .int y :: .int x :: r => (y < x → K L r G M tT c s) ∧ (¬ y < x → K L r G M tF c s)
    | _ => False)
  else bif Nat.beq op 6 then (match st with
    | .ref _ :: r => K L r G M tF c s
    | .null :: r => K L r G M tT c s
    | _ => False)
  else False
def wG (RO : List mE) (op nx : Nat) (x : List Nat) (L st : List Value) (G : List sh) (M : mM) (c s : Nat) (K : mKt) : Prop :=
  bif Nat.beq op 0 then (match st with
    | .int y :: .int x :: r => (¬ y = 0) ∧ K L (.int (x / y) :: r) G M nx c s
    | _ => False)
  else bif Nat.beq op 1 then (match st with
    | .int y :: .int x :: r => (¬ y = 0) ∧ K L (.int (x - x / y * y) :: r) G M nx c s
    | _ => False)
  else bif Nat.beq op 2 then (match st with
    | .float y :: .float x :: r => (vfb32 (FP.fdiv x y) = true) ∧ K L (.float (FP.fdiv x y) :: r) G M nx c s
    | _ => False)
  else bif Nat.beq op 3 then (match st with
    | .double y :: .double x :: r => (vfb64 (FP.ddiv x y) = true) ∧ K L (.double (FP.ddiv x y) :: r) G M nx c s
    | _ => False)
  else bif Nat.beq op 4 then (match st with
    | .float x :: r => (vfb64 (FP.f2d x) = true) ∧ K L (.double (FP.f2d x) :: r) G M nx c s
    | _ => False)
  else bif Nat.beq op 5 then (match st with
    | .int i :: .ref q :: r => (match wrd RO G M q with
      | some (1, n, f) => bif Nat.ble n 1000000 then (∃ j : Nat, i = Int32.ofNat j ∧ j < n ∧ K L (.int (f j) :: r) G M nx c s) else False
      | _ => False)
    | _ => False)
  else bif Nat.beq op 6 then (match st with
    | .int i :: .ref q :: r => bif Nat.blt q 1000000 then (match G[q]? with
      | some (.inl (4, n)) => bif Nat.ble n 1000000 then (∃ j : Nat, i = Int32.ofNat j ∧ j < n ∧ K L (.long (M q j).toInt64 :: r) G M nx c s) else False
      | _ => False) else False
    | _ => False)
  else bif Nat.beq op 7 then (match st with
    | .int i :: .ref q :: r => bif Nat.blt q 1000000 then (match G[q]? with
      | some (.inl (5, n)) => bif Nat.ble n 1000000 then (∃ j : Nat, i = Int32.ofNat j ∧ j < n ∧ K L (.double (FP.f2d (M q j).toUInt32) :: r) G M nx c s) else False
      | _ => False) else False
    | _ => False)
  else bif Nat.beq op 8 then (match st with
    | .int i :: .ref q :: r => bif Nat.blt q 1000000 then (match G[q]? with
      | some (.inr (.inr (.inl (3, n, .inr (.inr (.inr (.inr f))))))) => bif Nat.ble n 1000000 then (∃ j : Nat, i = Int32.ofNat j ∧ j < n ∧ K L (va_rf (f j) :: r) G M nx c s) else False
      | _ => False) else False
    | _ => False)
  else bif Nat.beq op 9 then (match st with
    | .int i :: .ref q :: r => (match wrd RO G M q with
      | some (0, n, f) => bif Nat.ble n 1000000 then (∃ j : Nat, i = Int32.ofNat j ∧ j < n ∧ K L (.int (f j) :: r) G M nx c s) else False
      | some (2, n, f) => bif Nat.ble n 1000000 then (∃ j : Nat, i = Int32.ofNat j ∧ j < n ∧ K L (.int (f j) :: r) G M nx c s) else False
      | _ => False)
    | _ => False)
  else bif Nat.beq op 10 then (match st with
    | .int x :: .int i :: .ref q :: r => bif Nat.blt q 1000000 then (match G[q]? with
      | some (.inl (1, n)) => bif Nat.ble n 1000000 then (∃ j : Nat, i = Int32.ofNat j ∧ j < n ∧ K L r G (upM M q (upd (M q) j x)) nx c s) else False
      | _ => False) else False
    | _ => False)
  else bif Nat.beq op 11 then (match st with
    | .int x :: .int i :: .ref q :: r => bif Nat.blt q 1000000 then (match G[q]? with
      | some (.inl (0, n)) => bif Nat.ble n 1000000 then (∃ j : Nat, i = Int32.ofNat j ∧ j < n ∧ K L r G (upM M q (upd (M q) j (vp_nar .byte x))) nx c s) else False
      | some (.inl (2, n)) => bif Nat.ble n 1000000 then (∃ j : Nat, i = Int32.ofNat j ∧ j < n ∧ K L r G (upM M q (upd (M q) j (vp_nar .boolean x))) nx c s) else False
      | _ => False) else False
    | _ => False)
  else bif Nat.beq op 12 then (match st with
    | .long y :: .int i :: .ref q :: r => bif Nat.blt q 1000000 then (match G[q]? with
      | some (.inl (4, n)) => bif Nat.ble n 1000000 then (∃ j : Nat, i = Int32.ofNat j ∧ j < n ∧ y.toInt32.toInt64 = y ∧ K L r G (upM M q (upd (M q) j y.toInt32)) nx c s) else False
      | _ => False) else False
    | _ => False)
  else bif Nat.beq op 13 then (match st with
    | .double y :: .int i :: .ref q :: r => bif Nat.blt q 1000000 then (match G[q]? with
      | some (.inl (5, n)) => bif Nat.ble n 1000000 then (∃ j : Nat, i = Int32.ofNat j ∧ j < n ∧ ∃ z : Int32, y = FP.f2d z.toUInt32 ∧ K L r G (upM M q (upd (M q) j z)) nx c s) else False
      | _ => False) else False
    | _ => False)
  else bif Nat.beq op 15 then (match st with
    | .int n :: .int dp :: .ref q1 :: .int sp :: .ref q0 :: r => bif Nat.blt q1 1000000 && mcs r then (match wrd RO G M q0, G[q1]? with
      | some (1, n0, f0), some (.inl (1, n1)) => (cpb sp dp n n0 n1 = true) ∧ K L r G (upM M q1 (va_cpy f0 (M q1) sp.toNatClampNeg dp.toNatClampNeg n.toNatClampNeg)) nx c s
      | some (0, n0, f0), some (.inl (0, n1)) => (cpb sp dp n n0 n1 = true) ∧ ((List.range n.toNatClampNeg).all (fun i => fits .byte (.int (f0 (sp.toNatClampNeg + i)))) = true) ∧ K L r G (upM M q1 (va_cpy f0 (M q1) sp.toNatClampNeg dp.toNatClampNeg n.toNatClampNeg)) nx c s
      | _, _ => False) else False
    | _ => False)
  else bif Nat.beq op 14 then (match st with
    | .ref u :: .int i :: .ref q :: r => bif Nat.blt q 1000000 && Nat.blt u 1000000 then (match G[q]?, G[u]? with
      | some (.inr (.inr (.inl (3, n, .inr (.inr (.inr (.inr f))))))), some (.inr (.inl (5, _))) => (vpb i n = true) ∧ K L r (G.set q (.inr (.inr (.inl (3, n, .inr (.inr (.inr (.inr (va_up f i.toNatClampNeg (some u)))))))))) M nx c s
      | _, _ => False) else False
    | _ => False)
  else False
def wsw (x : Int32) (K : Nat → Prop) : List (Int32 × Nat) → Nat → Prop
  | [], df => K df
  | (c, t) :: r, df => (x = c → K t) ∧ (¬ x = c → wsw x K r df)
def wcls (RO : List mE) (G : List sh) (q : Nat) : Option Nat := bif Nat.blt q 1000000 then (match G[q]? with
    | some (.inr (.inl (cj, _))) => some cj
    | _ => none) else (match RO[q - 1000000]? with
    | some (.inr (cj, _)) => some cj
    | _ => none)
def wrecv (RO : List mE) (G : List sh) (mode : Nat) (as : List Value) (r9 : List Nat) : Bool :=
  bif Nat.beq mode 1 || Nat.beq mode 3 || Nat.beq mode 5 then true
  else match as with
    | .ref q :: _ => bif Nat.beq mode 2 || Nat.beq mode 4 then true else (match wcls RO G q, r9 with
      | some cj, [_, ci] => Nat.beq mode 0 && Nat.beq cj ci
      | some cj, [_, _, ci] => Nat.beq cj ci
      | some cj, [_, _, _, _, ci] => Nat.beq cj ci
      | _, _ => false)
    | _ => false
def wexc (k pc x : Nat) (L : List Value) (G : List sh) (M : mM) (c s : Nat) (K : mKt) (Q : mQ) : Prop := match mhx k with
  | [] => Q (.inr x) G M c s
  | l => match mfh pc x l with
    | some (i, nx) => bif okp L i && Nat.blt x 3 then K (L.set i (.retAddr 0)) [] G M nx c s else False
    | none => False
def wcal (RO : List mE) (d k pc nx mode k9 : Nat) (r9 : List Nat) (as r L : List Value) (G : List sh) (M : mM) (c s : Nat) (K : mKt) (Q : mQ) : Prop :=
  bif mcs r && wrecv RO G mode as r9 then EvP RO d k9 as G M (fun o G' M' mc ms => match o with
    | .inl v => K L (v.toList ++ r) G' M' nx (c + mc) (s + ms)
    | .inr x => wexc k pc x L G' M' (c + mc) (s + ms) K Q) else False
def wret (k op : Nat) (st : List Value) (Qv : Option Value → Prop) : Prop :=
  bif Nat.beq op 0 then (match st with
    | [] => Qv none
    | _ => False)
  else bif Nat.beq op 1 then (match st with
    | [.int x] => (match mret k with
      | some .int => Qv (some (.int x))
      | some t => narrow t (.int x) = .int x ∧ Qv (some (.int x))
      | none => False)
    | _ => False)
  else bif Nat.beq op 2 then (match st with
    | [.ref q] => Qv (some (.ref q))
    | [.null] => Qv (some .null)
    | _ => False)
  else bif Nat.beq op 3 then (match st with
    | [.double d] => Qv (some (.double d))
    | _ => False)
  else bif Nat.beq op 4 then (match st with
    | [.float d] => Qv (some (.float d))
    | _ => False)
  else bif Nat.beq op 5 then (match st with
    | [.long d] => Qv (some (.long d))
    | _ => False)
  else False
def wnew (op nx : Nat) (st L : List Value) (G : List sh) (M : mM) (c s : Nat) (K : mKt) : Prop := match st with
  | .int n :: r => bif Nat.ble op 2 then (¬ n < 0) ∧ n.toNatClampNeg * 8 ≤ 536870912 ∧ G.length < 1000000 ∧ K L (.ref G.length :: r) (G ++ [.inl (op, n.toNatClampNeg)]) (upM M G.length (fun _ => 0)) nx (c + 1) (s + n.toNatClampNeg) else False
  | _ => False
def wcln (nx : Nat) (st L : List Value) (G : List sh) (M : mM) (c s : Nat) (K : mKt) : Prop := match st with
  | .ref q :: r => bif Nat.blt q 1000000 && mcs r then (match G[q]? with
    | some (.inl (0, n)) => G.length < 1000000 ∧ (∀ i, i < n → fits .byte (.int (M q i)) = true) ∧ K L (.ref G.length :: r) (G ++ [.inl (0, n)]) (upM M G.length (M q)) nx (c + 1) (s + n)
    | _ => False) else False
  | _ => False
def wst (RO : List mE) (d k pc : Nat) (I : mI) (L st : List Value) (G : List sh) (M : mM) (c s : Nat) (K : mKt) (Q : mQ) : Prop := match I with
  | (g, op, nx, x, v) =>
    bif Nat.beq g 0 then wS RO op nx x v L st G M c s K
    else bif Nat.beq g 1 then (match x with
      | [tT, tF] => wC op tT tF L st G M c s K
      | _ => False)
    else bif Nat.beq g 2 then wG RO op nx x L st G M c s K
    else bif Nat.beq g 3 then (match x with
      | [t] => K L st G M t c s
      | _ => False)
    else bif Nat.beq g 4 then (match st, x with
      | .int i :: r, df :: _ => wsw i (fun t => K L r G M t c s) (msw k pc) df
      | _, _ => False)
    else bif Nat.beq g 6 then wnew op nx st L G M c s K
    else bif Nat.beq g 7 then (match x with
      | mode :: k9 :: na :: _ :: _ :: _ :: _ :: _ :: r9 => bif Nat.ble (mna mode na) st.length then wcal RO d k pc nx mode k9 r9 (st.take (mna mode na)).reverse (st.drop (mna mode na)) L G M c s K Q else False
      | _ => False)
    else bif Nat.beq g 8 then wret k op st (fun v => Q (.inl v) G M c s)
    else bif Nat.beq g 9 then (match x with
      | E :: _ => bif mcs st then Q (.inr E) G M (c + 1) (s + 6) else False
      | _ => False)
    else bif Nat.beq g 11 then (match mZt[op]? with
      | none => False
      | some q => match q.2 RO x v L st [] with
        | some (L', st', _) => K L' st' G M nx c s
        | none => False)
    else bif Nat.beq g 5 then (match x with
      | [ci, _, _, _] => bif Nat.ble ci 6 then G.length < 1000000 ∧ K L (.ref G.length :: st) (G ++ [.inr (.inl (ci, mdef ci))]) (upM M G.length (fun _ => 0)) nx (c + 1) (s + (mdef ci).length) else False
      | _ => False)
    else bif Nat.beq g 10 then (match st with
      | .int n :: r => (¬ n < 0) ∧ n.toNatClampNeg * 8 ≤ 536870912 ∧ G.length < 1000000 ∧ K L (.ref G.length :: r) (G ++ [.inr (.inr (.inl (3, n.toNatClampNeg, .inr (.inr (.inr (.inr (fun _ => none)))))))]) (upM M G.length (fun _ => 0)) nx (c + 1) (s + n.toNatClampNeg)
      | _ => False)
    else bif Nat.beq g 12 then wcln nx st L G M c s K
    else False
def wp (RO : List mE) (d : Nat) (stops : List Nat) (k : Nat) : Nat → List Value → List Value → List sh → mM → Nat → Nat → Nat → mQ → Prop
  | 0, L, st, G, M, pc, c, s, Q => GoP RO d k L st G M pc c s Q
  | n + 1, L, st, G, M, pc, c, s, Q => match cd k pc with
    | none => False
    | some I => wst RO d k pc I L st G M c s (fun L' st' G' M' pc' c' s' => bif mmem pc' stops then GoP RO d k L' st' G' M' pc' c' s' Q else wp RO d stops k n L' st' G' M' pc' c' s' Q) Q

