/-! steps keep the length of the world -/
def LenS (f : mSf) : Prop := ∀ (RO : List mE) (x : List Nat) (v : Value) (L st : List Value) (W9 : List mE) (L' st' : List Value) (W' : List mE), f RO x v L st W9 = some (L', st', W') → W'.length = W9.length
def LenG (f : mGf) : Prop := ∀ (RO : List mE) (x : List Nat) (L st : List Value) (W9 : List mE) (b : Bool) (L' st' : List Value) (W' : List mE), f RO x L st W9 = some (b, L', st', W') → W'.length = W9.length
theorem lenS_iadd : LenS sf_iadd := by
  intro RO x v L st W9 L' st' W' h
  simp only [sf_iadd, mset_eq, Bool.cond_eq_ite] at h
  (repeat' (split at h)) <;> first | (cases h; done) | (cases h; rfl) | (cases h; simp)
theorem lenS_isub : LenS sf_isub := by
  intro RO x v L st W9 L' st' W' h
  simp only [sf_isub, mset_eq, Bool.cond_eq_ite] at h
  (repeat' (split at h)) <;> first | (cases h; done) | (cases h; rfl) | (cases h; simp)
theorem lenS_imul : LenS sf_imul := by
  intro RO x v L st W9 L' st' W' h
  simp only [sf_imul, mset_eq, Bool.cond_eq_ite] at h
  (repeat' (split at h)) <;> first | (cases h; done) | (cases h; rfl) | (cases h; simp)
theorem lenS_iand : LenS sf_iand := by
  intro RO x v L st W9 L' st' W' h
  simp only [sf_iand, mset_eq, Bool.cond_eq_ite] at h
  (repeat' (split at h)) <;> first | (cases h; done) | (cases h; rfl) | (cases h; simp)
theorem lenS_ior : LenS sf_ior := by
  intro RO x v L st W9 L' st' W' h
  simp only [sf_ior, mset_eq, Bool.cond_eq_ite] at h
  (repeat' (split at h)) <;> first | (cases h; done) | (cases h; rfl) | (cases h; simp)
theorem lenS_ishl : LenS sf_ishl := by
  intro RO x v L st W9 L' st' W' h
  simp only [sf_ishl, mset_eq, Bool.cond_eq_ite] at h
  (repeat' (split at h)) <;> first | (cases h; done) | (cases h; rfl) | (cases h; simp)
theorem lenS_ishr : LenS sf_ishr := by
  intro RO x v L st W9 L' st' W' h
  simp only [sf_ishr, mset_eq, Bool.cond_eq_ite] at h
  (repeat' (split at h)) <;> first | (cases h; done) | (cases h; rfl) | (cases h; simp)
theorem lenS_iushr : LenS sf_iushr := by
  intro RO x v L st W9 L' st' W' h
  simp only [sf_iushr, mset_eq, Bool.cond_eq_ite] at h
  (repeat' (split at h)) <;> first | (cases h; done) | (cases h; rfl) | (cases h; simp)
theorem lenS_ineg : LenS sf_ineg := by
  intro RO x v L st W9 L' st' W' h
  simp only [sf_ineg, mset_eq, Bool.cond_eq_ite] at h
  (repeat' (split at h)) <;> first | (cases h; done) | (cases h; rfl) | (cases h; simp)
theorem lenS_i2b : LenS sf_i2b := by
  intro RO x v L st W9 L' st' W' h
  simp only [sf_i2b, mset_eq, Bool.cond_eq_ite] at h
  (repeat' (split at h)) <;> first | (cases h; done) | (cases h; rfl) | (cases h; simp)
theorem lenS_i2c : LenS sf_i2c := by
  intro RO x v L st W9 L' st' W' h
  simp only [sf_i2c, mset_eq, Bool.cond_eq_ite] at h
  (repeat' (split at h)) <;> first | (cases h; done) | (cases h; rfl) | (cases h; simp)
theorem lenS_i2l : LenS sf_i2l := by
  intro RO x v L st W9 L' st' W' h
  simp only [sf_i2l, mset_eq, Bool.cond_eq_ite] at h
  (repeat' (split at h)) <;> first | (cases h; done) | (cases h; rfl) | (cases h; simp)
theorem lenS_i2f : LenS sf_i2f := by
  intro RO x v L st W9 L' st' W' h
  simp only [sf_i2f, mset_eq, Bool.cond_eq_ite] at h
  (repeat' (split at h)) <;> first | (cases h; done) | (cases h; rfl) | (cases h; simp)
theorem lenS_i2d : LenS sf_i2d := by
  intro RO x v L st W9 L' st' W' h
  simp only [sf_i2d, mset_eq, Bool.cond_eq_ite] at h
  (repeat' (split at h)) <;> first | (cases h; done) | (cases h; rfl) | (cases h; simp)
theorem lenS_lcmp : LenS sf_lcmp := by
  intro RO x v L st W9 L' st' W' h
  simp only [sf_lcmp, mset_eq, Bool.cond_eq_ite] at h
  (repeat' (split at h)) <;> first | (cases h; done) | (cases h; rfl) | (cases h; simp)
theorem lenS_fcmp : LenS sf_fcmp := by
  intro RO x v L st W9 L' st' W' h
  simp only [sf_fcmp, mset_eq, Bool.cond_eq_ite] at h
  (repeat' (split at h)) <;> first | (cases h; done) | (cases h; rfl) | (cases h; simp)
theorem lenS_dcmp : LenS sf_dcmp := by
  intro RO x v L st W9 L' st' W' h
  simp only [sf_dcmp, mset_eq, Bool.cond_eq_ite] at h
  (repeat' (split at h)) <;> first | (cases h; done) | (cases h; rfl) | (cases h; simp)
theorem lenS_iconst : LenS sf_iconst := by
  intro RO x v L st W9 L' st' W' h
  simp only [sf_iconst, mset_eq, Bool.cond_eq_ite] at h
  (repeat' (split at h)) <;> first | (cases h; done) | (cases h; rfl) | (cases h; simp)
theorem lenS_bipush : LenS sf_bipush := by
  intro RO x v L st W9 L' st' W' h
  simp only [sf_bipush, mset_eq, Bool.cond_eq_ite] at h
  (repeat' (split at h)) <;> first | (cases h; done) | (cases h; rfl) | (cases h; simp)
theorem lenS_sipush : LenS sf_sipush := by
  intro RO x v L st W9 L' st' W' h
  simp only [sf_sipush, mset_eq, Bool.cond_eq_ite] at h
  (repeat' (split at h)) <;> first | (cases h; done) | (cases h; rfl) | (cases h; simp)
theorem lenS_fconst0 : LenS sf_fconst0 := by
  intro RO x v L st W9 L' st' W' h
  simp only [sf_fconst0, mset_eq, Bool.cond_eq_ite] at h
  (repeat' (split at h)) <;> first | (cases h; done) | (cases h; rfl) | (cases h; simp)
theorem lenS_dconst0 : LenS sf_dconst0 := by
  intro RO x v L st W9 L' st' W' h
  simp only [sf_dconst0, mset_eq, Bool.cond_eq_ite] at h
  (repeat' (split at h)) <;> first | (cases h; done) | (cases h; rfl) | (cases h; simp)
theorem lenS_ldcS : LenS sf_ldcS := by
  intro RO x v L st W9 L' st' W' h
  simp only [sf_ldcS, mset_eq, Bool.cond_eq_ite] at h
  (repeat' (split at h)) <;> first | (cases h; done) | (cases h; rfl) | (cases h; simp)
theorem lenS_dup : LenS sf_dup := by
  intro RO x v L st W9 L' st' W' h
  simp only [sf_dup, mset_eq, Bool.cond_eq_ite] at h
  (repeat' (split at h)) <;> first | (cases h; done) | (cases h; rfl) | (cases h; simp)
theorem lenS_pop : LenS sf_pop := by
  intro RO x v L st W9 L' st' W' h
  simp only [sf_pop, mset_eq, Bool.cond_eq_ite] at h
  (repeat' (split at h)) <;> first | (cases h; done) | (cases h; rfl) | (cases h; simp)
theorem lenS_dup_x1 : LenS sf_dup_x1 := by
  intro RO x v L st W9 L' st' W' h
  simp only [sf_dup_x1, mset_eq, Bool.cond_eq_ite] at h
  (repeat' (split at h)) <;> first | (cases h; done) | (cases h; rfl) | (cases h; simp)
theorem lenS_dup2 : LenS sf_dup2 := by
  intro RO x v L st W9 L' st' W' h
  simp only [sf_dup2, mset_eq, Bool.cond_eq_ite] at h
  (repeat' (split at h)) <;> first | (cases h; done) | (cases h; rfl) | (cases h; simp)
theorem lenS_iload : LenS sf_iload := by
  intro RO x v L st W9 L' st' W' h
  simp only [sf_iload, mset_eq, Bool.cond_eq_ite] at h
  (repeat' (split at h)) <;> first | (cases h; done) | (cases h; rfl) | (cases h; simp)
theorem lenS_aload : LenS sf_aload := by
  intro RO x v L st W9 L' st' W' h
  simp only [sf_aload, mset_eq, Bool.cond_eq_ite] at h
  (repeat' (split at h)) <;> first | (cases h; done) | (cases h; rfl) | (cases h; simp)
theorem lenS_fload : LenS sf_fload := by
  intro RO x v L st W9 L' st' W' h
  simp only [sf_fload, mset_eq, Bool.cond_eq_ite] at h
  (repeat' (split at h)) <;> first | (cases h; done) | (cases h; rfl) | (cases h; simp)
theorem lenS_dload : LenS sf_dload := by
  intro RO x v L st W9 L' st' W' h
  simp only [sf_dload, mset_eq, Bool.cond_eq_ite] at h
  (repeat' (split at h)) <;> first | (cases h; done) | (cases h; rfl) | (cases h; simp)
theorem lenS_lload : LenS sf_lload := by
  intro RO x v L st W9 L' st' W' h
  simp only [sf_lload, mset_eq, Bool.cond_eq_ite] at h
  (repeat' (split at h)) <;> first | (cases h; done) | (cases h; rfl) | (cases h; simp)
theorem lenS_istore : LenS sf_istore := by
  intro RO x v L st W9 L' st' W' h
  simp only [sf_istore, mset_eq, Bool.cond_eq_ite] at h
  (repeat' (split at h)) <;> first | (cases h; done) | (cases h; rfl) | (cases h; simp)
theorem lenS_astore : LenS sf_astore := by
  intro RO x v L st W9 L' st' W' h
  simp only [sf_astore, mset_eq, Bool.cond_eq_ite] at h
  (repeat' (split at h)) <;> first | (cases h; done) | (cases h; rfl) | (cases h; simp)
theorem lenS_fstore : LenS sf_fstore := by
  intro RO x v L st W9 L' st' W' h
  simp only [sf_fstore, mset_eq, Bool.cond_eq_ite] at h
  (repeat' (split at h)) <;> first | (cases h; done) | (cases h; rfl) | (cases h; simp)
theorem lenS_dstore : LenS sf_dstore := by
  intro RO x v L st W9 L' st' W' h
  simp only [sf_dstore, mset_eq, Bool.cond_eq_ite] at h
  (repeat' (split at h)) <;> first | (cases h; done) | (cases h; rfl) | (cases h; simp)
theorem lenS_iinc : LenS sf_iinc := by
  intro RO x v L st W9 L' st' W' h
  simp only [sf_iinc, mset_eq, Bool.cond_eq_ite] at h
  (repeat' (split at h)) <;> first | (cases h; done) | (cases h; rfl) | (cases h; simp)
theorem lenS_getfield : LenS sf_getfield := by
  intro RO x v L st W9 L' st' W' h
  simp only [sf_getfield, mset_eq, Bool.cond_eq_ite] at h
  (repeat' (split at h)) <;> first | (cases h; done) | (cases h; rfl) | (cases h; simp)
theorem lenS_getfieldN : LenS sf_getfieldN := by
  intro RO x v L st W9 L' st' W' h
  simp only [sf_getfieldN, mset_eq, Bool.cond_eq_ite] at h
  (repeat' (split at h)) <;> first | (cases h; done) | (cases h; rfl) | (cases h; simp)
theorem lenS_putfield : LenS sf_putfield := by
  intro RO x v L st W9 L' st' W' h
  simp only [sf_putfield, mset_eq, Bool.cond_eq_ite] at h
  (repeat' (split at h)) <;> first | (cases h; done) | (cases h; rfl) | (cases h; simp)
theorem lenS_putfieldN : LenS sf_putfieldN := by
  intro RO x v L st W9 L' st' W' h
  simp only [sf_putfieldN, mset_eq, Bool.cond_eq_ite] at h
  (repeat' (split at h)) <;> first | (cases h; done) | (cases h; rfl) | (cases h; simp)
theorem lenS_putfieldF : LenS sf_putfieldF := by
  intro RO x v L st W9 L' st' W' h
  simp only [sf_putfieldF, mset_eq, Bool.cond_eq_ite] at h
  (repeat' (split at h)) <;> first | (cases h; done) | (cases h; rfl) | (cases h; simp)
theorem lenS_alen : LenS sf_alen := by
  intro RO x v L st W9 L' st' W' h
  simp only [sf_alen, mset_eq, Bool.cond_eq_ite] at h
  (repeat' (split at h)) <;> first | (cases h; done) | (cases h; rfl) | (cases h; simp)
theorem lenS_mmax : LenS sf_mmax := by
  intro RO x v L st W9 L' st' W' h
  simp only [sf_mmax, mset_eq, Bool.cond_eq_ite] at h
  (repeat' (split at h)) <;> first | (cases h; done) | (cases h; rfl) | (cases h; simp)
theorem lenS_mmin : LenS sf_mmin := by
  intro RO x v L st W9 L' st' W' h
  simp only [sf_mmin, mset_eq, Bool.cond_eq_ite] at h
  (repeat' (split at h)) <;> first | (cases h; done) | (cases h; rfl) | (cases h; simp)
theorem lenS_mabs : LenS sf_mabs := by
  intro RO x v L st W9 L' st' W' h
  simp only [sf_mabs, mset_eq, Bool.cond_eq_ite] at h
  (repeat' (split at h)) <;> first | (cases h; done) | (cases h; rfl) | (cases h; simp)
theorem lenS_objInit : LenS sf_objInit := by
  intro RO x v L st W9 L' st' W' h
  simp only [sf_objInit, mset_eq, Bool.cond_eq_ite] at h
  (repeat' (split at h)) <;> first | (cases h; done) | (cases h; rfl) | (cases h; simp)
theorem lenS_ldcI : LenS sf_ldcI := by
  intro RO x v L st W9 L' st' W' h
  simp only [sf_ldcI, mset_eq, Bool.cond_eq_ite] at h
  (repeat' (split at h)) <;> first | (cases h; done) | (cases h; rfl) | (cases h; simp)
theorem lenS_ldcwI : LenS sf_ldcwI := by
  intro RO x v L st W9 L' st' W' h
  simp only [sf_ldcwI, mset_eq, Bool.cond_eq_ite] at h
  (repeat' (split at h)) <;> first | (cases h; done) | (cases h; rfl) | (cases h; simp)
theorem lenS_gsZ : LenS sf_gsZ := by
  intro RO x v L st W9 L' st' W' h
  simp only [sf_gsZ, mset_eq, Bool.cond_eq_ite] at h
  (repeat' (split at h)) <;> first | (cases h; done) | (cases h; rfl) | (cases h; simp)
theorem lenS_gsO : LenS sf_gsO := by
  intro RO x v L st W9 L' st' W' h
  simp only [sf_gsO, mset_eq, Bool.cond_eq_ite] at h
  (repeat' (split at h)) <;> first | (cases h; done) | (cases h; rfl) | (cases h; simp)
theorem lenS_gsT : LenS sf_gsT := by
  intro RO x v L st W9 L' st' W' h
  simp only [sf_gsT, mset_eq, Bool.cond_eq_ite] at h
  (repeat' (split at h)) <;> first | (cases h; done) | (cases h; rfl) | (cases h; simp)
theorem lenG_idiv : LenG gf_idiv := by
  intro RO x L st W9 b L' st' W' h
  simp only [gf_idiv, mset_eq, Bool.cond_eq_ite] at h
  (repeat' (split at h)) <;> first | (cases h; done) | (cases h; rfl) | (cases h; simp)
theorem lenG_irem : LenG gf_irem := by
  intro RO x L st W9 b L' st' W' h
  simp only [gf_irem, mset_eq, Bool.cond_eq_ite] at h
  (repeat' (split at h)) <;> first | (cases h; done) | (cases h; rfl) | (cases h; simp)
theorem lenG_fdiv : LenG gf_fdiv := by
  intro RO x L st W9 b L' st' W' h
  simp only [gf_fdiv, mset_eq, Bool.cond_eq_ite] at h
  (repeat' (split at h)) <;> first | (cases h; done) | (cases h; rfl) | (cases h; simp)
theorem lenG_ddiv : LenG gf_ddiv := by
  intro RO x L st W9 b L' st' W' h
  simp only [gf_ddiv, mset_eq, Bool.cond_eq_ite] at h
  (repeat' (split at h)) <;> first | (cases h; done) | (cases h; rfl) | (cases h; simp)
theorem lenG_f2d : LenG gf_f2d := by
  intro RO x L st W9 b L' st' W' h
  simp only [gf_f2d, mset_eq, Bool.cond_eq_ite] at h
  (repeat' (split at h)) <;> first | (cases h; done) | (cases h; rfl) | (cases h; simp)
theorem lenG_iald : LenG gf_iald := by
  intro RO x L st W9 b L' st' W' h
  simp only [gf_iald, mset_eq, Bool.cond_eq_ite] at h
  (repeat' (split at h)) <;> first | (cases h; done) | (cases h; rfl) | (cases h; simp)
theorem lenG_lald : LenG gf_lald := by
  intro RO x L st W9 b L' st' W' h
  simp only [gf_lald, mset_eq, Bool.cond_eq_ite] at h
  (repeat' (split at h)) <;> first | (cases h; done) | (cases h; rfl) | (cases h; simp)
theorem lenG_dald : LenG gf_dald := by
  intro RO x L st W9 b L' st' W' h
  simp only [gf_dald, mset_eq, Bool.cond_eq_ite] at h
  (repeat' (split at h)) <;> first | (cases h; done) | (cases h; rfl) | (cases h; simp)
theorem lenG_aald : LenG gf_aald := by
  intro RO x L st W9 b L' st' W' h
  simp only [gf_aald, mset_eq, Bool.cond_eq_ite] at h
  (repeat' (split at h)) <;> first | (cases h; done) | (cases h; rfl) | (cases h; simp)
theorem lenG_bald : LenG gf_bald := by
  intro RO x L st W9 b L' st' W' h
  simp only [gf_bald, mset_eq, Bool.cond_eq_ite] at h
  (repeat' (split at h)) <;> first | (cases h; done) | (cases h; rfl) | (cases h; simp)
theorem lenG_iast : LenG gf_iast := by
  intro RO x L st W9 b L' st' W' h
  simp only [gf_iast, mset_eq, Bool.cond_eq_ite] at h
  (repeat' (split at h)) <;> first | (cases h; done) | (cases h; rfl) | (cases h; simp)
theorem lenG_bast : LenG gf_bast := by
  intro RO x L st W9 b L' st' W' h
  simp only [gf_bast, mset_eq, Bool.cond_eq_ite] at h
  (repeat' (split at h)) <;> first | (cases h; done) | (cases h; rfl) | (cases h; simp)
theorem lenG_last : LenG gf_last := by
  intro RO x L st W9 b L' st' W' h
  simp only [gf_last, mset_eq, Bool.cond_eq_ite] at h
  (repeat' (split at h)) <;> first | (cases h; done) | (cases h; rfl) | (cases h; simp)
theorem lenG_dast : LenG gf_dast := by
  intro RO x L st W9 b L' st' W' h
  simp only [gf_dast, mset_eq, Bool.cond_eq_ite] at h
  (repeat' (split at h)) <;> first | (cases h; done) | (cases h; rfl) | (cases h; simp)
theorem lenG_aast : LenG gf_aast := by
  intro RO x L st W9 b L' st' W' h
  simp only [gf_aast, mset_eq, Bool.cond_eq_ite] at h
  (repeat' (split at h)) <;> first | (cases h; done) | (cases h; rfl) | (cases h; simp)
theorem lenG_copyi : LenG gf_copyi := by
  intro RO x L st W9 b L' st' W' h
  simp only [gf_copyi, mset_eq, Bool.cond_eq_ite] at h
  (repeat' (split at h)) <;> first | (cases h; done) | (cases h; rfl) | (cases h; simp)
theorem lenS_ixor : LenS sf_ixor := by
  intro RO x v L st W9 L' st' W' h
  simp only [sf_ixor, mset_eq, Bool.cond_eq_ite] at h
  (repeat' (split at h)) <;> first | (cases h; done) | (cases h; rfl) | (cases h; simp)
theorem lenS_ladd : LenS sf_ladd := by
  intro RO x v L st W9 L' st' W' h
  simp only [sf_ladd, mset_eq, Bool.cond_eq_ite] at h
  (repeat' (split at h)) <;> first | (cases h; done) | (cases h; rfl) | (cases h; simp)
theorem lenS_lmul : LenS sf_lmul := by
  intro RO x v L st W9 L' st' W' h
  simp only [sf_lmul, mset_eq, Bool.cond_eq_ite] at h
  (repeat' (split at h)) <;> first | (cases h; done) | (cases h; rfl) | (cases h; simp)
theorem lenS_lstore : LenS sf_lstore := by
  intro RO x v L st W9 L' st' W' h
  simp only [sf_lstore, mset_eq, Bool.cond_eq_ite] at h
  (repeat' (split at h)) <;> first | (cases h; done) | (cases h; rfl) | (cases h; simp)
theorem lenS_lconst0 : LenS sf_lconst0 := by
  intro RO x v L st W9 L' st' W' h
  simp only [sf_lconst0, mset_eq, Bool.cond_eq_ite] at h
  (repeat' (split at h)) <;> first | (cases h; done) | (cases h; rfl) | (cases h; simp)
theorem lenS_ldc2L : LenS sf_ldc2L := by
  intro RO x v L st W9 L' st' W' h
  simp only [sf_ldc2L, mset_eq, Bool.cond_eq_ite] at h
  (repeat' (split at h)) <;> first | (cases h; done) | (cases h; rfl) | (cases h; simp)
theorem lenS_anull : LenS sf_anull := by
  intro RO x v L st W9 L' st' W' h
  simp only [sf_anull, mset_eq, Bool.cond_eq_ite] at h
  (repeat' (split at h)) <;> first | (cases h; done) | (cases h; rfl) | (cases h; simp)
theorem lenS_all : ∀ q ∈ mSt, LenS q.2 := List.forall_mem_cons.mpr ⟨lenS_iadd, List.forall_mem_cons.mpr ⟨lenS_isub, List.forall_mem_cons.mpr ⟨lenS_imul, List.forall_mem_cons.mpr ⟨lenS_iand, List.forall_mem_cons.mpr ⟨lenS_ior, List.forall_mem_cons.mpr ⟨lenS_ishl, List.forall_mem_cons.mpr ⟨lenS_ishr, List.forall_mem_cons.mpr ⟨lenS_iushr, List.forall_mem_cons.mpr ⟨lenS_ineg, List.forall_mem_cons.mpr ⟨lenS_i2b, List.forall_mem_cons.mpr ⟨lenS_i2c, List.forall_mem_cons.mpr ⟨lenS_i2l, List.forall_mem_cons.mpr ⟨lenS_i2f, List.forall_mem_cons.mpr ⟨lenS_i2d, List.forall_mem_cons.mpr ⟨lenS_lcmp, List.forall_mem_cons.mpr ⟨lenS_fcmp, List.forall_mem_cons.mpr ⟨lenS_dcmp, List.forall_mem_cons.mpr ⟨lenS_iconst, List.forall_mem_cons.mpr ⟨lenS_bipush, List.forall_mem_cons.mpr ⟨lenS_sipush, List.forall_mem_cons.mpr ⟨lenS_fconst0, List.forall_mem_cons.mpr ⟨lenS_dconst0, List.forall_mem_cons.mpr ⟨lenS_ldcS, List.forall_mem_cons.mpr ⟨lenS_dup, List.forall_mem_cons.mpr ⟨lenS_pop, List.forall_mem_cons.mpr ⟨lenS_dup_x1, List.forall_mem_cons.mpr ⟨lenS_dup2, List.forall_mem_cons.mpr ⟨lenS_iload, List.forall_mem_cons.mpr ⟨lenS_aload, List.forall_mem_cons.mpr ⟨lenS_fload, List.forall_mem_cons.mpr ⟨lenS_dload, List.forall_mem_cons.mpr ⟨lenS_lload, List.forall_mem_cons.mpr ⟨lenS_istore, List.forall_mem_cons.mpr ⟨lenS_astore, List.forall_mem_cons.mpr ⟨lenS_fstore, List.forall_mem_cons.mpr ⟨lenS_dstore, List.forall_mem_cons.mpr ⟨lenS_iinc, List.forall_mem_cons.mpr ⟨lenS_getfield, List.forall_mem_cons.mpr ⟨lenS_getfieldN, List.forall_mem_cons.mpr ⟨lenS_putfield, List.forall_mem_cons.mpr ⟨lenS_putfieldN, List.forall_mem_cons.mpr ⟨lenS_putfieldF, List.forall_mem_cons.mpr ⟨lenS_alen, List.forall_mem_cons.mpr ⟨lenS_mmax, List.forall_mem_cons.mpr ⟨lenS_mmin, List.forall_mem_cons.mpr ⟨lenS_mabs, List.forall_mem_cons.mpr ⟨lenS_objInit, List.forall_mem_cons.mpr ⟨lenS_ixor, List.forall_mem_cons.mpr ⟨lenS_ladd, List.forall_mem_cons.mpr ⟨lenS_lmul, List.forall_mem_cons.mpr ⟨lenS_lstore, List.forall_mem_cons.mpr ⟨lenS_lconst0, fun _ h => absurd h List.not_mem_nil⟩⟩⟩⟩⟩⟩⟩⟩⟩⟩⟩⟩⟩⟩⟩⟩⟩⟩⟩⟩⟩⟩⟩⟩⟩⟩⟩⟩⟩⟩⟩⟩⟩⟩⟩⟩⟩⟩⟩⟩⟩⟩⟩⟩⟩⟩⟩⟩⟩⟩⟩⟩
theorem lenZ_all : ∀ q ∈ mZt, LenS q.2 := List.forall_mem_cons.mpr ⟨lenS_ldcI, List.forall_mem_cons.mpr ⟨lenS_ldcwI, List.forall_mem_cons.mpr ⟨lenS_gsZ, List.forall_mem_cons.mpr ⟨lenS_gsO, List.forall_mem_cons.mpr ⟨lenS_gsT, List.forall_mem_cons.mpr ⟨lenS_ldc2L, List.forall_mem_cons.mpr ⟨lenS_anull, fun _ h => absurd h List.not_mem_nil⟩⟩⟩⟩⟩⟩⟩
theorem lenG_all : ∀ q ∈ mGt, LenG q.2 := List.forall_mem_cons.mpr ⟨lenG_idiv, List.forall_mem_cons.mpr ⟨lenG_irem, List.forall_mem_cons.mpr ⟨lenG_fdiv, List.forall_mem_cons.mpr ⟨lenG_ddiv, List.forall_mem_cons.mpr ⟨lenG_f2d, List.forall_mem_cons.mpr ⟨lenG_iald, List.forall_mem_cons.mpr ⟨lenG_lald, List.forall_mem_cons.mpr ⟨lenG_dald, List.forall_mem_cons.mpr ⟨lenG_aald, List.forall_mem_cons.mpr ⟨lenG_bald, List.forall_mem_cons.mpr ⟨lenG_iast, List.forall_mem_cons.mpr ⟨lenG_bast, List.forall_mem_cons.mpr ⟨lenG_last, List.forall_mem_cons.mpr ⟨lenG_dast, List.forall_mem_cons.mpr ⟨lenG_aast, List.forall_mem_cons.mpr ⟨lenG_copyi, fun _ h => absurd h List.not_mem_nil⟩⟩⟩⟩⟩⟩⟩⟩⟩⟩⟩⟩⟩⟩⟩⟩
