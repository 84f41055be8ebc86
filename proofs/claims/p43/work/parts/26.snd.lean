section SND2
variable {RO : List mE} {d k pc c s op nx : Nat} {L st L' st' : List Value} {G G' : List sh} {M M' : mM} {Q : mQ} {K : mKt} {I : mI} {x : List Nat} {v : Value}
theorem int32_l {y : Int64} {n : Nat} {f : Nat → Int32} {i : Nat} (h : y.toInt32.toInt64 = y) : vp_updL (fun j => (f j).toInt64) i y = fun j => (upd f i y.toInt32 j).toInt64 := by
  funext j
  unfold vp_updL upd
  by_cases hj : j = i
  · rw [if_pos hj, if_pos hj, h]
  · rw [if_neg hj, if_neg hj]
theorem int32_d {z : Int32} {f : Nat → Int32} {i : Nat} : vf_upd (fun j => FP.f2d (f j).toUInt32) i (FP.f2d z.toUInt32) = fun j => FP.f2d (upd f i z j).toUInt32 := by
  funext j
  unfold vf_upd upd
  by_cases hj : j = i
  · rw [if_pos hj, if_pos hj]
  · rw [if_neg hj, if_neg hj]
theorem scell_i {t n : Nat} {f : Nat → Int32} (h4 : Nat.beq t 4 = false) (h5 : Nat.beq t 5 = false) : scell (.inl (t, n)) f = .inl (t, n, .inl f) := by
  simp only [scell, h4, h5, cond_false]
theorem vpb_n {j n : Nat} (hj : j < n) (hn : n ≤ 1000000) : vpb (Int32.ofNat j) n = true := by
  have h1 : ¬ Int32.ofNat j < 0 := by
    rw [show (0 : Int32) = Int32.ofNat 0 from rfl, Int32.ofNat_lt_iff_lt (by omega) (by omega)]
    omega
  have h2 : (Int32.ofNat j).toNatClampNeg = j := Int32.toNatClampNeg_ofNat_of_lt (by omega)
  have h3 : Nat.ble n j = false := by
    cases h : Nat.ble n j
    · rfl
    · have := Nat.le_of_ble_eq_true h
      omega
  unfold vpb
  rw [decide_eq_false h1, h2, h3]; rfl
theorem clamp_n {j n : Nat} (hj : j < n) (hn : n ≤ 1000000) : (Int32.ofNat j).toNatClampNeg = j := Int32.toNatClampNeg_ofNat_of_lt (by omega)
theorem wG_sound (hcd : cd k pc = some (2, op, nx, x, v)) (h : wG RO op nx x L st G M c s K) (hK : ∀ L' st' G' M' pc' c' s', K L' st' G' M' pc' c' s' → GoP RO d k L' st' G' M' pc' c' s' Q) : GoP RO d k L st G M pc c s Q := by
  have key : ∀ (q : mGc × mGf) (L' st' : List Value) (G' : List sh) (M' : mM), mGt[op]? = some q → q.2 RO x L st (wof G M) = some (true, L', st', wof G' M') → K L' st' G' M' nx c s → GoP RO d k L st G M pc c s Q :=
    fun q L' st' G' M' hq hf hk => GoP.step 0 hcd (mstep2 hq hf) (hK _ _ _ _ _ _ _ hk)
  have hat : ∀ {q : Nat} {e : sh}, G[q]? = some e → (wof G M)[q]? = some (scell e (M q)) := fun h9 => by rw [wof_at, h9]; rfl
  have hlt : ∀ {q : Nat} {e : sh}, G[q]? = some e → q < (wof G M).length := fun h9 => by rw [wof_len]; exact (List.getElem?_eq_some_iff.mp h9).1
  unfold wG at h
  cases h0 : Nat.beq op 0 with
  | true =>
    rw [h0] at h
    cases Nat.eq_of_beq_eq_true h0
    simp only [cond_true] at h
    split at h
    · rename_i y9 x9 r9
      exact key (gc_idiv, gf_idiv) L (.int (x9 / y9) :: r9) G M rfl (by simp only [gf_idiv]; rw [decide_eq_false h.1]; rfl) h.2
    · exact h.elim
  | false =>
  rw [h0] at h
  simp only [cond_false] at h
  cases h1 : Nat.beq op 1 with
  | true =>
    rw [h1] at h
    cases Nat.eq_of_beq_eq_true h1
    simp only [cond_true] at h
    split at h
    · rename_i y9 x9 r9
      exact key (gc_irem, gf_irem) L (.int (x9 - x9 / y9 * y9) :: r9) G M rfl (by simp only [gf_irem]; rw [decide_eq_false h.1]; rfl) h.2
    · exact h.elim
  | false =>
  rw [h1] at h
  simp only [cond_false] at h
  cases h2 : Nat.beq op 2 with
  | true =>
    rw [h2] at h
    cases Nat.eq_of_beq_eq_true h2
    simp only [cond_true] at h
    split at h
    · rename_i y9 x9 r9
      exact key (gc_fdiv, gf_fdiv) L (.float (FP.fdiv x9 y9) :: r9) G M rfl (by simp only [gf_fdiv]; rw [h.1]) h.2
    · exact h.elim
  | false =>
  rw [h2] at h
  simp only [cond_false] at h
  cases h3 : Nat.beq op 3 with
  | true =>
    rw [h3] at h
    cases Nat.eq_of_beq_eq_true h3
    simp only [cond_true] at h
    split at h
    · rename_i y9 x9 r9
      exact key (gc_ddiv, gf_ddiv) L (.double (FP.ddiv x9 y9) :: r9) G M rfl (by simp only [gf_ddiv]; rw [h.1]) h.2
    · exact h.elim
  | false =>
  rw [h3] at h
  simp only [cond_false] at h
  cases h4 : Nat.beq op 4 with
  | true =>
    rw [h4] at h
    cases Nat.eq_of_beq_eq_true h4
    simp only [cond_true] at h
    split at h
    · rename_i x9 r9
      exact key (gc_f2d, gf_f2d) L (.double (FP.f2d x9) :: r9) G M rfl (by simp only [gf_f2d]; rw [h.1]) h.2
    · exact h.elim
  | false =>
  rw [h4] at h
  simp only [cond_false] at h
  cases h5 : Nat.beq op 5 with
  | true =>
    rw [h5] at h
    cases Nat.eq_of_beq_eq_true h5
    simp only [cond_true] at h
    split at h
    · rename_i i9 q9 r9
      split at h
      · rename_i n9 f9 hw
        cases hn : Nat.ble n9 1000000 with
        | false => rw [hn] at h; exact h.elim
        | true =>
          rw [hn] at h
          have hn := Nat.le_of_ble_eq_true hn
          obtain ⟨j9, rfl, hj, hk⟩ := h
          exact key (gc_iald, gf_iald) L (.int (f9 j9) :: r9) G M rfl (by simp only [gf_iald, wrd_ok hw]; rw [vpb_n hj hn, clamp_n hj hn]) hk
      · exact h.elim
    · exact h.elim
  | false =>
  rw [h5] at h
  simp only [cond_false] at h
  cases h6 : Nat.beq op 6 with
  | true =>
    rw [h6] at h
    cases Nat.eq_of_beq_eq_true h6
    simp only [cond_true] at h
    split at h
    · rename_i i9 q9 r9
      cases hb : Nat.blt q9 1000000 with
      | false => rw [hb] at h; exact h.elim
      | true =>
        rw [hb] at h
        simp only [cond_true] at h
        split at h
        · rename_i n9 hg
          have hm : mget RO (wof G M) q9 = some (scell (.inl (4, n9)) (M q9)) := by rw [mget, hb]; exact hat hg
          cases hn : Nat.ble n9 1000000 with
          | false => rw [hn] at h; exact h.elim
          | true =>
            rw [hn] at h
            have hn := Nat.le_of_ble_eq_true hn
            obtain ⟨j9, rfl, hj, hk⟩ := h
            exact key (gc_lald, gf_lald) L (.long (M q9 j9).toInt64 :: r9) G M rfl (by simp only [gf_lald]; rw [hm]; simp only [scell, show Nat.beq 4 4 = true from rfl, show Nat.beq 5 5 = true from rfl, cond_true, cond_false]; rw [vpb_n hj hn, clamp_n hj hn]) hk
        · exact h.elim
    · exact h.elim
  | false =>
  rw [h6] at h
  simp only [cond_false] at h
  cases h7 : Nat.beq op 7 with
  | true =>
    rw [h7] at h
    cases Nat.eq_of_beq_eq_true h7
    simp only [cond_true] at h
    split at h
    · rename_i i9 q9 r9
      cases hb : Nat.blt q9 1000000 with
      | false => rw [hb] at h; exact h.elim
      | true =>
        rw [hb] at h
        simp only [cond_true] at h
        split at h
        · rename_i n9 hg
          have hm : mget RO (wof G M) q9 = some (scell (.inl (5, n9)) (M q9)) := by rw [mget, hb]; exact hat hg
          cases hn : Nat.ble n9 1000000 with
          | false => rw [hn] at h; exact h.elim
          | true =>
            rw [hn] at h
            have hn := Nat.le_of_ble_eq_true hn
            obtain ⟨j9, rfl, hj, hk⟩ := h
            exact key (gc_dald, gf_dald) L (.double (FP.f2d (M q9 j9).toUInt32) :: r9) G M rfl (by simp only [gf_dald]; rw [hm]; simp only [scell, show Nat.beq 5 4 = false from rfl, show Nat.beq 5 5 = true from rfl, cond_true, cond_false]; rw [vpb_n hj hn, clamp_n hj hn]) hk
        · exact h.elim
    · exact h.elim
  | false =>
  rw [h7] at h
  simp only [cond_false] at h
  cases h8 : Nat.beq op 8 with
  | true =>
    rw [h8] at h
    cases Nat.eq_of_beq_eq_true h8
    simp only [cond_true] at h
    split at h
    · rename_i i9 q9 r9
      cases hb : Nat.blt q9 1000000 with
      | false => rw [hb] at h; exact h.elim
      | true =>
        rw [hb] at h
        simp only [cond_true] at h
        split at h
        · rename_i n9 f9 hg
          have hm : mget RO (wof G M) q9 = some (.inl (3, n9, .inr (.inr (.inr (.inr f9))))) := by rw [mget, hb]; exact hat hg
          cases hn : Nat.ble n9 1000000 with
          | false => rw [hn] at h; exact h.elim
          | true =>
            rw [hn] at h
            have hn := Nat.le_of_ble_eq_true hn
            obtain ⟨j9, rfl, hj, hk⟩ := h
            exact key (gc_aald, gf_aald) L (va_rf (f9 j9) :: r9) G M rfl (by simp only [gf_aald]; rw [hm]; simp only; rw [vpb_n hj hn, clamp_n hj hn]) hk
        · exact h.elim
    · exact h.elim
  | false =>
  rw [h8] at h
  simp only [cond_false] at h
  cases h9 : Nat.beq op 9 with
  | true =>
    rw [h9] at h
    cases Nat.eq_of_beq_eq_true h9
    simp only [cond_true] at h
    split at h
    · rename_i i9 q9 r9
      split at h
      · rename_i n9 f9 hw
        cases hn : Nat.ble n9 1000000 with
        | false => rw [hn] at h; exact h.elim
        | true =>
          rw [hn] at h
          have hn := Nat.le_of_ble_eq_true hn
          obtain ⟨j9, rfl, hj, hk⟩ := h
          exact key (gc_bald, gf_bald) L (.int (f9 j9) :: r9) G M rfl (by simp only [gf_bald, wrd_ok hw]; rw [vpb_n hj hn, clamp_n hj hn]) hk
      · rename_i n9 f9 hw
        cases hn : Nat.ble n9 1000000 with
        | false => rw [hn] at h; exact h.elim
        | true =>
          rw [hn] at h
          have hn := Nat.le_of_ble_eq_true hn
          obtain ⟨j9, rfl, hj, hk⟩ := h
          exact key (gc_bald, gf_bald) L (.int (f9 j9) :: r9) G M rfl (by simp only [gf_bald, wrd_ok hw]; rw [vpb_n hj hn, clamp_n hj hn]) hk
      · exact h.elim
    · exact h.elim
  | false =>
  rw [h9] at h
  simp only [cond_false] at h
  cases h10 : Nat.beq op 10 with
  | true =>
    rw [h10] at h
    cases Nat.eq_of_beq_eq_true h10
    simp only [cond_true] at h
    split at h
    · rename_i x9 i9 q9 r9
      cases hb : Nat.blt q9 1000000 with
      | false => rw [hb] at h; exact h.elim
      | true =>
        rw [hb] at h
        simp only [cond_true] at h
        split at h
        · rename_i n9 hg
          have hm : (wof G M)[q9]? = some (.inl (1, n9, .inl (M q9))) := hat hg
          cases hn : Nat.ble n9 1000000 with
          | false => rw [hn] at h; exact h.elim
          | true =>
            rw [hn] at h
            have hn := Nat.le_of_ble_eq_true hn
            obtain ⟨j9, rfl, hj, hk⟩ := h
            have hs := wof_set (M := M) (f := upd (M q9) j9 (x9)) hg
            rw [scell_i rfl rfl] at hs
            exact key (gc_iast, gf_iast) L r9 G _ rfl (by simp only [gf_iast, hb, cond_true, hm, mset_eq, if_pos (hlt hg)]; rw [vpb_n hj hn, clamp_n hj hn, hs]) hk
        · exact h.elim
    · exact h.elim
  | false =>
  rw [h10] at h
  simp only [cond_false] at h
  cases h11 : Nat.beq op 11 with
  | true =>
    rw [h11] at h
    cases Nat.eq_of_beq_eq_true h11
    simp only [cond_true] at h
    split at h
    · rename_i x9 i9 q9 r9
      cases hb : Nat.blt q9 1000000 with
      | false => rw [hb] at h; exact h.elim
      | true =>
        rw [hb] at h
        simp only [cond_true] at h
        split at h
        · rename_i n9 hg
          have hm : (wof G M)[q9]? = some (.inl (0, n9, .inl (M q9))) := hat hg
          cases hn : Nat.ble n9 1000000 with
          | false => rw [hn] at h; exact h.elim
          | true =>
            rw [hn] at h
            have hn := Nat.le_of_ble_eq_true hn
            obtain ⟨j9, rfl, hj, hk⟩ := h
            have hs := wof_set (M := M) (f := upd (M q9) j9 (vp_nar .byte x9)) hg
            rw [scell_i rfl rfl] at hs
            exact key (gc_bast, gf_bast) L r9 G _ rfl (by simp only [gf_bast, hb, cond_true, hm, mset_eq, if_pos (hlt hg)]; rw [vpb_n hj hn, clamp_n hj hn, hs]) hk
        · rename_i n9 hg
          have hm : (wof G M)[q9]? = some (.inl (2, n9, .inl (M q9))) := hat hg
          cases hn : Nat.ble n9 1000000 with
          | false => rw [hn] at h; exact h.elim
          | true =>
            rw [hn] at h
            have hn := Nat.le_of_ble_eq_true hn
            obtain ⟨j9, rfl, hj, hk⟩ := h
            have hs := wof_set (M := M) (f := upd (M q9) j9 (vp_nar .boolean x9)) hg
            rw [scell_i rfl rfl] at hs
            exact key (gc_bast, gf_bast) L r9 G _ rfl (by simp only [gf_bast, hb, cond_true, hm, mset_eq, if_pos (hlt hg)]; rw [vpb_n hj hn, clamp_n hj hn, hs]) hk
        · exact h.elim
    · exact h.elim
  | false =>
  rw [h11] at h
  simp only [cond_false] at h
  cases h12 : Nat.beq op 12 with
  | true =>
    rw [h12] at h
    cases Nat.eq_of_beq_eq_true h12
    simp only [cond_true] at h
    split at h
    · rename_i x9 i9 q9 r9
      cases hb : Nat.blt q9 1000000 with
      | false => rw [hb] at h; exact h.elim
      | true =>
        rw [hb] at h
        simp only [cond_true] at h
        split at h
        · rename_i n9 hg
          have hm : (wof G M)[q9]? = some (.inl (4, n9, .inr (.inl (fun i => (M q9 i).toInt64)))) := hat hg
          cases hn : Nat.ble n9 1000000 with
          | false => rw [hn] at h; exact h.elim
          | true =>
            rw [hn] at h
            have hn := Nat.le_of_ble_eq_true hn
            obtain ⟨j9, rfl, hj, hk⟩ := h
            have hs := wof_set (M := M) (f := upd (M q9) j9 x9.toInt32) hg
            have hs : (wof G M).set q9 (.inl (4, n9, .inr (.inl (fun i => (upd (M q9) j9 x9.toInt32 i).toInt64)))) = _ := hs
            rw [← int32_l (n := 0) hk.1] at hs
            exact key (gc_last, gf_last) L r9 G _ rfl (by simp only [gf_last, hb, cond_true, hm, mset_eq, if_pos (hlt hg)]; rw [vpb_n hj hn, clamp_n hj hn, hs]) hk.2
        · exact h.elim
    · exact h.elim
  | false =>
  rw [h12] at h
  simp only [cond_false] at h
  cases h13 : Nat.beq op 13 with
  | true =>
    rw [h13] at h
    cases Nat.eq_of_beq_eq_true h13
    simp only [cond_true] at h
    split at h
    · rename_i x9 i9 q9 r9
      cases hb : Nat.blt q9 1000000 with
      | false => rw [hb] at h; exact h.elim
      | true =>
        rw [hb] at h
        simp only [cond_true] at h
        split at h
        · rename_i n9 hg
          have hm : (wof G M)[q9]? = some (.inl (5, n9, .inr (.inr (.inr (.inl (fun i => FP.f2d (M q9 i).toUInt32)))))) := hat hg
          cases hn : Nat.ble n9 1000000 with
          | false => rw [hn] at h; exact h.elim
          | true =>
            rw [hn] at h
            have hn := Nat.le_of_ble_eq_true hn
            obtain ⟨j9, rfl, hj, hk⟩ := h
            obtain ⟨z, hz, hk⟩ := hk
            subst hz
            have hs := wof_set (M := M) (f := upd (M q9) j9 z) hg
            have hs : (wof G M).set q9 (.inl (5, n9, .inr (.inr (.inr (.inl (fun i => FP.f2d (upd (M q9) j9 z i).toUInt32)))))) = _ := hs
            rw [← int32_d] at hs
            exact key (gc_dast, gf_dast) L r9 G _ rfl (by simp only [gf_dast, hb, cond_true, hm, mset_eq, if_pos (hlt hg)]; rw [vpb_n hj hn, clamp_n hj hn, hs]) hk
        · exact h.elim
    · exact h.elim
  | false =>
  rw [h13] at h
  simp only [cond_false] at h
  cases h15 : Nat.beq op 15 with
  | true =>
    rw [h15] at h
    cases Nat.eq_of_beq_eq_true h15
    simp only [cond_true] at h
    split at h
    · rename_i n9 dp q1 sp q0 r9
      cases hb : (Nat.blt q1 1000000 && mcs r9) with
      | false => rw [hb] at h; exact h.elim
      | true =>
        rw [hb] at h
        simp only [cond_true] at h
        simp only [Bool.and_eq_true] at hb
        split at h
        · rename_i n0 f0 n1 hg0 hg1
          have hm0 : mget RO (wof G M) q0 = some (.inl (1, n0, .inl f0)) := wrd_ok hg0
          have hm1 : (wof G M)[q1]? = some (.inl (1, n1, .inl (M q1))) := hat hg1
          have hs := wof_set (M := M) (f := va_cpy f0 (M q1) sp.toNatClampNeg dp.toNatClampNeg n9.toNatClampNeg) hg1
          rw [scell_i rfl rfl] at hs
          exact key (gc_copyi, gf_copyi) L r9 G _ rfl (by simp only [gf_copyi, hb.1, hb.2, Bool.and_self, cond_true, hm0, hm1, mset_eq, if_pos (hlt hg1), hs]; rw [h.1]) h.2
        · rename_i n0 f0 n1 hg0 hg1
          have hm0 : mget RO (wof G M) q0 = some (.inl (0, n0, .inl f0)) := wrd_ok hg0
          have hm1 : (wof G M)[q1]? = some (.inl (0, n1, .inl (M q1))) := hat hg1
          have hs := wof_set (M := M) (f := va_cpy f0 (M q1) sp.toNatClampNeg dp.toNatClampNeg n9.toNatClampNeg) hg1
          rw [scell_i rfl rfl] at hs
          exact key (gc_copyi, gf_copyi) L r9 G _ rfl (by simp only [gf_copyi, hb.1, hb.2, Bool.and_self, cond_true, hm0, hm1, mset_eq, if_pos (hlt hg1), hs]; rw [h.1, h.2.1]; rfl) h.2.2
        · exact h.elim
    · exact h.elim
  | false =>
  rw [h15] at h
  simp only [cond_false] at h
  cases h14 : Nat.beq op 14 with
  | true =>
    rw [h14] at h
    cases Nat.eq_of_beq_eq_true h14
    simp only [cond_true] at h
    split at h
    · rename_i u9 i9 q9 r9
      cases hb : (Nat.blt q9 1000000 && Nat.blt u9 1000000) with
      | false => rw [hb] at h; exact h.elim
      | true =>
        rw [hb] at h
        simp only [cond_true] at h
        split at h
        · rename_i n9 f9 vs9 hg hgv
          have hm : (wof G M)[q9]? = some (.inl (3, n9, .inr (.inr (.inr (.inr f9))))) := hat hg
          have hv : (wof G M)[u9]? = some (.inr (5, sfld (M u9) 0 vs9)) := hat hgv
          have hs := wof_setG (M := M) (s := .inr (.inr (.inl (3, n9, .inr (.inr (.inr (.inr (va_up f9 i9.toNatClampNeg (some u9))))))))) (List.getElem?_eq_some_iff.mp hg).1
          exact key (gc_aast, gf_aast) L r9 _ M rfl (by simp only [gf_aast, hb, cond_true, hm, hv, mset_eq, if_pos (hlt hg)]; rw [h.1]; exact congrArg (fun w => some (true, L, r9, w)) hs) h.2
        · exact h.elim
    · exact h.elim
  | false =>
  rw [h14] at h
  exact h.elim
theorem wsw_use {x9 : Int32} {K9 : Nat → Prop} : ∀ (l : List (Int32 × Nat)) (df : Nat), wsw x9 K9 l df → K9 (mswt x9 l df) := by
  intro l
  induction l with
  | nil => intro df h; exact h
  | cons a l ih =>
    intro df h
    obtain ⟨c9, t9⟩ := a
    rw [mswt]
    by_cases hx : x9 = c9
    · rw [if_pos hx]; exact h.1 hx
    · rw [if_neg hx]; exact ih df (h.2 hx)
theorem wcls_ok {q ci : Nat} (h : wcls RO G q = some ci) : ∃ fs, mget RO (wof G M) q = some (.inr (ci, fs)) := by
  unfold wcls at h
  unfold mget
  cases hb : Nat.blt q 1000000 with
  | true =>
    rw [hb] at h
    simp only [cond_true] at h ⊢
    rw [wof_at]
    split at h
    · rename_i cj fs hg
      cases h
      rw [hg]
      exact ⟨_, rfl⟩
    · cases h
  | false =>
    rw [hb] at h
    simp only [cond_false] at h ⊢
    split at h
    · rename_i cj fs hg
      cases h
      exact ⟨fs, hg⟩
    · cases h
theorem wrecv_ok {mode : Nat} {as : List Value} {r9 : List Nat} (h : wrecv RO G mode as r9 = true) : mrecv RO (wof G M) mode as r9 = true := by
  unfold wrecv at h
  unfold mrecv
  cases hb : (Nat.beq mode 1 || Nat.beq mode 3 || Nat.beq mode 5) with
  | true => rfl
  | false =>
    rw [hb] at h
    simp only [cond_false] at h ⊢
    split at h
    · rename_i q as2
      cases hb2 : (Nat.beq mode 2 || Nat.beq mode 4) with
      | true => rfl
      | false =>
        rw [hb2] at h
        simp only [cond_false] at h ⊢
        split at h
        · rename_i cj n5 ci hc
          obtain ⟨fs, hg⟩ := wcls_ok (M := M) hc
          rw [hg]
          exact h
        · rename_i cj n5 n6 ci hc
          obtain ⟨fs, hg⟩ := wcls_ok (M := M) hc
          rw [hg]
          exact h
        · rename_i cj n5 n6 n7 kO ci hc
          obtain ⟨fs, hg⟩ := wcls_ok (M := M) hc
          rw [hg]
          exact h
        · cases h
    · cases h
theorem wret_ok {Qv : Option Value → Prop} (h : wret k op st Qv) : ∃ v9, mretv k op st = some v9 ∧ Qv v9 := by
  unfold wret at h
  unfold mretv
  cases h0 : Nat.beq op 0 with
  | true =>
    rw [h0] at h
    simp only [cond_true] at h ⊢
    split at h
    · exact ⟨_, rfl, h⟩
    · exact h.elim
  | false =>
  rw [h0] at h
  simp only [cond_false] at h ⊢
  cases h1 : Nat.beq op 1 with
  | true =>
    rw [h1] at h
    simp only [cond_true] at h ⊢
    split at h
    · rename_i x9
      split at h
      · rename_i hm
        refine ⟨_, ?_, h⟩
        rw [hm]; rfl
      · rename_i t9 hno hm
        refine ⟨_, ?_, h.2⟩
        have hb : mnar (mret k) x9 = true := by
          rw [hm]
          unfold mnar
          split
          · rfl
          · rename_i t8 _ he
            cases he
            exact decide_eq_true h.1
          · rename_i he; cases he
        simp only [hb, cond_true]
      · exact h.elim
    · exact h.elim
  | false =>
  rw [h1] at h
  simp only [cond_false] at h ⊢
  cases h2 : Nat.beq op 2 with
  | true =>
    rw [h2] at h
    simp only [cond_true] at h ⊢
    split at h
    · exact ⟨_, rfl, h⟩
    · exact ⟨_, rfl, h⟩
    · exact h.elim
  | false =>
  rw [h2] at h
  simp only [cond_false] at h ⊢
  cases h3 : Nat.beq op 3 with
  | true =>
    rw [h3] at h
    simp only [cond_true] at h ⊢
    split at h
    · exact ⟨_, rfl, h⟩
    · exact h.elim
  | false =>
  rw [h3] at h
  simp only [cond_false] at h ⊢
  cases h4 : Nat.beq op 4 with
  | true =>
    rw [h4] at h
    simp only [cond_true] at h ⊢
    split at h
    · exact ⟨_, rfl, h⟩
    · exact h.elim
  | false =>
  rw [h4] at h
  simp only [cond_false] at h ⊢
  cases h5 : Nat.beq op 5 with
  | true =>
    rw [h5] at h
    simp only [cond_true] at h ⊢
    split at h
    · exact ⟨_, rfl, h⟩
    · exact h.elim
  | false =>
    rw [h5] at h
    exact h.elim
theorem wexc_ok {x9 : Nat} (h : wexc k pc x9 L G M c s K Q) : (mexc k pc x9 L (wof G M) c s = some (.inr (.inr x9, wof G M, c, s)) ∧ Q (.inr x9) G M c s) ∨ ∃ L' nx', mexc k pc x9 L (wof G M) c s = some (.inl (L', [], wof G M, nx', c, s)) ∧ K L' [] G M nx' c s := by
  unfold wexc at h
  unfold mexc
  cases hm : mhx k with
  | nil =>
    rw [hm] at h
    exact Or.inl ⟨rfl, h⟩
  | cons a b =>
    rw [hm] at h
    replace h : (match mfh pc x9 (a :: b) with
      | some (i, nx) => bif okp L i && Nat.blt x9 3 then K (L.set i (.retAddr 0)) [] G M nx c s else False
      | none => False) := h
    cases hf : mfh pc x9 (a :: b) with
    | none => rw [hf] at h; exact h.elim
    | some q =>
      obtain ⟨i9, n9⟩ := q
      rw [hf] at h
      replace h : (bif okp L i9 && Nat.blt x9 3 then K (L.set i9 (.retAddr 0)) [] G M n9 c s else False) := h
      cases hb : (okp L i9 && Nat.blt x9 3) with
      | false => rw [hb] at h; exact h.elim
      | true =>
        rw [hb] at h
        refine Or.inr ⟨_, _, ?_, h⟩
        show ((match mfh pc x9 (a :: b) with
          | some (i, nx) => bif okp L i && Nat.blt x9 3 then some (.inl (L.set i (.retAddr 0), [], wof G M, nx, c, s)) else none
          | none => none) : Option mAct) = _
        rw [hf]
        show (bif okp L i9 && Nat.blt x9 3 then some (Sum.inl (L.set i9 (.retAddr 0), [], wof G M, n9, c, s)) else none : Option mAct) = _
        rw [hb]
        rfl
end SND2
