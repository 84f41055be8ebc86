/-! the class loads a text -/
def FrG (M M' : mM) : Prop := (∀ q, q < 3 ∨ 11 < q → q ≠ 1 → M' q = M q) ∧ M' 1 2 = 0
section LOAD
variable {hs f : Nat → Int32} {d len n : Nat} {GG : List sh} {M : mM} {Q : mQ} {B : Nat → Nat} {Z : Nat → Int32}
theorem c_parse (hG : pw GG) (hZ : ∀ j, j < 207 → Z j = 0) (hw : widOk M 3) (hn : n ≤ 700) (hB : ∀ j, j < n → M 2 j &&& 255 = Int32.ofNat (B j) ∧ B j < 256) (hok : ∀ N m S t e M', pText Z B n = .inr (N, m, S, t, e) → FrZ M M' → OkC M' → TrN M' 3 N m S t → Q (.inl none) GG M' 0 0) (her : ∀ k x M', pText Z B n = .inl (k, x) → FrZ M M' → widOk M' 3 → M' 1 9 = Int32.ofNat k → M' 1 10 = Int32.ofNat x → 0 < k → k < 7 → Q (.inl none) GG M' 0 0) : EvP (RO9 hs len f) (d + 10) 24 [.ref 1, .int (Int32.ofNat n)] GG M Q := by
  obtain ⟨c9, r9, rfl⟩ := hG
  refine EvP.wp [5] 60 rfl ?_
  refine c_begin hw hn hB (fun M1 f1 p1 o1 t1 c1 => ?_)
  refine c_text hZ p1 o1 (TrN_congr (fun j hj => hZ j hj) t1) c1 _ (fun N m S t e M2 h f2 o2 t2 => ?_) (fun k x M2 h hE => ?_)
  · exact hok N m S t e M2 h (FrP.Z f1 f2) o2 t2
  · exact her k x M2 h (FrP.Z f1 hE.1) hE.2.1 hE.2.2.1 hE.2.2.2.1 hE.2.2.2.2.1 hE.2.2.2.2.2
end LOAD
section LOAD
variable {hs f : Nat → Int32} {d len sb m0 S0 t0 nf : Nat} {ext : List sh} {M : mM} {Q : mQ} {B : Nat → Nat} {Z N0 : Nat → Int32}
theorem q_load {N : Nat → Int32} {m S t e n : Nat} (hZ : ∀ j, j < 207 → Z j = 0) (hf : M 1 2 = Int32.ofNat nf) (hnf : nf ≤ 700) (hw : widOk M 3) (hT : TrN M 12 N0 m0 S0 t0) (hB : ∀ j, j < nf → M 2 j &&& 255 = Int32.ofNat (B j) ∧ B j < 256) (hn : n ≤ nf) (hp : pText Z B n = .inr (N, m, S, t, e)) (hok : ∀ M1, FrG M M1 → OkC M1 → TrN M1 3 N m S t → Q (.inl (some (.int (Int32.ofNat S)))) (gW sb ext) (upM (upM (becM M1 12 3) 49 (upd (M 49) 2 0)) 141 (upd (upd (M 141) 0 (vp_nar .boolean 0)) 1 (vp_nar .boolean 0))) 0 0) : EvP (RO9 hs len f) (d + 13) 97 [.ref 0, .int (Int32.ofNat n)] (gW sb ext) M Q := by
  refine EvP.wp [] 60 rfl ?_
  refine nn_if rfl (by omega) ?_
  refine gt_if (a := n) (b := nf) rfl hf (by omega) (by omega) (fun h => absurd h (by omega)) (fun _ => ?_)
  refine c_parse (n := n) pw_W hZ hw (by omega) (fun j hj => hB j (by omega)) (fun N' m' S' t' e' M1 hp' f1 o1 t1 => ?_) (fun k x M1 hp' f1 w1 k9 k10 k0 k7 => ?_)
  · rw [hp] at hp'
    cases hp'
    have fg : FrG M (upM M1 1 (upd (M1 1) 2 0)) := ⟨fun q a b => by rw [upM_ne b]; exact f1.1 q a b, by rw [upM_at, upd_at]⟩
    have og : OkC (upM M1 1 (upd (M1 1) 2 0)) := ⟨by rw [upM_at, upd_ne (by decide)]; exact o1.1, by rw [upM_at, upd_ne (by decide)]; exact o1.2⟩
    have tg : TrN (upM M1 1 (upd (M1 1) 2 0)) 3 N m S t := TrN_fr t1 (fun q a b => upM_ne (by omega))
    have hq := hok _ fg og tg
    have w12 := TrN_wid hT
    have e12 : widOk (upM M1 1 (upd (M1 1) 2 0)) 12 := wid_fr w12 (fun q a b => fg.1 q (by omega) (by omega))
    have hbec := fun d => c_become (RO := RO9 hs len f) (d := d) (sb := sb) (ext := ext) (x := 12) (y := 3) (by decide) tg e12.1 e12.2.1 e12.2.2
    have b49 : becM (upM M1 1 (upd (M1 1) 2 0)) 12 3 49 = M 49 := by rw [becM_far (by omega)]; exact fg.1 49 (by omega) (by omega)
    have b141 : becM (upM M1 1 (upd (M1 1) 2 0)) 12 3 141 = M 141 := by rw [becM_far (by omega)]; exact fg.1 141 (by omega) (by omega)
    have b13 : becM (upM M1 1 (upd (M1 1) 2 0)) 12 3 13 2 = Int32.ofNat S := (TrN_bec (x := 12) tg e12.1 e12.2.1 e12.2.2).2.2.1.2
    refine EvP.wp [] 60 rfl ?_
    refine ⟨fun _ => ?_, fun h => absurd og.1 h⟩
    refine (hbec _).use ?_
    generalize becM (upM M1 1 (upd (M1 1) 2 0)) 12 3 = M2 at *
    refine c_forget.use ?_
    refine ⟨fun _ => ?_, fun h => absurd (by decide) h⟩
    refine ⟨0, rfl, by omega, ?_⟩
    refine ⟨fun _ => ?_, fun h => absurd (by decide) h⟩
    refine ⟨1, rfl, by omega, ?_⟩
    refine ⟨fun h => absurd h (by decide), fun _ => ?_⟩
    have s1 : upM M2 49 (upd (M2 49) 2 0) 141 = M 141 := by rw [upM_ne (by decide), b141]
    have s3 : ∀ F : Nat → Int32, upM (upM M2 49 (upd (M2 49) 2 0)) 141 F 13 2 = Int32.ofNat S := fun F => by rw [upM_ne (by decide), upM_ne (by decide), b13]
    refine Q_of hq ?_ ?_
    · rw [← s3 (upd (upd (M 141) 0 (vp_nar .boolean 0)) 1 (vp_nar .boolean 0)), ← s1, upM_upM, upM_at]
    · rw [upM_upM, upM_at, s1, ← b49]
  · rw [hp] at hp'
    cases hp'
end LOAD
