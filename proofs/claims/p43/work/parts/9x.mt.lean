theorem ClsOk.far {M : mM} {g : Nat → Int32} {q : Nat} (h : ClsOk M) (hq : 145 ≤ q) : ClsOk (upM M q g) := by
  have e : ∀ r, r < 145 → upM M q g r = M r := fun r hr => upM_ne (by omega)
  obtain ⟨w3, w22, w31, w40, w51, ⟨N, e0, hN, hNv, hT⟩, a1, a2, a3, a4, a5, a6, a7, a8, a9, a10⟩ := h
  have wd : ∀ b, b + 5 < 145 → widOk M b → widOk (upM M q g) b := fun b hb h => ⟨by rw [e _ (by omega)]; exact h.1, by rw [e _ (by omega)]; exact h.2.1, by rw [e _ (by omega)]; exact h.2.2⟩
  refine ⟨wd 3 (by omega) w3, wd 22 (by omega) w22, wd 31 (by omega) w31, wd 40 (by omega) w40, fun i hi => wd _ (by omega) (w51 i hi), ⟨N, e0, hN, hNv, TrN_fr hT (fun r x y => e r (by omega))⟩, ?_, ?_, ?_, ?_, ?_, ?_, ?_, ?_, ?_, fun j => ?_⟩
  · rw [e 49 (by omega)]; exact a1
  · rw [e 49 (by omega)]; exact a2
  · rw [e 141 (by omega)]; exact a3
  · rw [e 141 (by omega)]; exact a4
  · rw [e 1 (by omega)]; exact a5
  · rw [e 1 (by omega)]; exact a6
  · rw [e 1 (by omega)]; exact a7
  · rw [e 142 (by omega)]; exact a8
  · rw [e 142 (by omega)]; exact a9
  · rw [e 143 (by omega)]; exact a10 j
theorem cls_fin {Mf M6 M7 M8 M9 M10 : mM} {N : Nat → Int32} {e0 : Nat} (hN : pText (fun _ => 0) t0B 208 = .inr (N, 2, 5, 3, e0)) (hNv : ∀ j, j < 207 → N j = nowL.getD j 0) (t6 : TrN M6 12 N 2 5 3) (w6 : widOk M6 3) (e6 : M6 1 2 = 0 ∧ M6 1 9 = 0 ∧ M6 1 10 = -1) (f7 : ∀ q, q ≤ 22 ∨ 22 + 8 < q → M7 q = upM (upM M6 21 (fun _ => 0)) 22 (fun _ => 0) q) (w7 : widOk M7 22) (f8 : ∀ q, q ≤ 31 ∨ 31 + 8 < q → M8 q = upM M7 31 (fun _ => 0) q) (w8 : widOk M8 31) (f9 : ∀ q, q ≤ 40 ∨ 40 + 8 < q → M9 q = upM M8 40 (fun _ => 0) q) (w9 : widOk M9 40) (f10 : ∀ q, q ≤ 49 → M10 q = upM M9 49 (fun _ => 0) q) (w10 : ∀ i, i < 10 → widOk M10 (49 + 2 + 9 * i)) (gf : ∀ q, q ≤ 140 → Mf q = M10 q) (h141 : ∀ j, Mf 141 j = 0) (h142 : Mf 142 1 = 0 ∧ Mf 142 3 = 0) (h143 : ∀ j, Mf 143 j = 0) : ClsOk Mf := by
  have c9 : ∀ q, q ≤ 48 → Mf q = M9 q := fun q hq => by rw [gf q (by omega), f10 q (by omega), upM_ne (by omega)]
  have c8 : ∀ q, q ≤ 39 → Mf q = M8 q := fun q hq => by rw [c9 q (by omega), f9 q (by omega), upM_ne (by omega)]
  have c7 : ∀ q, q ≤ 30 → Mf q = M7 q := fun q hq => by rw [c8 q (by omega), f8 q (by omega), upM_ne (by omega)]
  have c6 : ∀ q, q ≤ 20 → Mf q = M6 q := fun q hq => by rw [c7 q (by omega), f7 q (by omega), upM_ne (by omega), upM_ne (by omega)]
  have wd : ∀ (M : mM) (b : Nat), (∀ q, b ≤ q → q ≤ b + 8 → Mf q = M q) → widOk M b → widOk Mf b := fun M b hb h => ⟨by rw [hb _ (by omega) (by omega)]; exact h.1, by rw [hb _ (by omega) (by omega)]; exact h.2.1, by rw [hb _ (by omega) (by omega)]; exact h.2.2⟩
  have z49 : ∀ j, Mf 49 j = 0 := fun j => by rw [gf 49 (by omega), f10 49 (by omega), upM_at]
  refine ⟨wd M6 3 (fun q a b => c6 q (by omega)) w6, wd M7 22 (fun q a b => c7 q (by omega)) w7, wd M8 31 (fun q a b => c8 q (by omega)) w8, wd M9 40 (fun q a b => c9 q (by omega)) w9, fun i hi => wd M10 _ (fun q a b => gf q (by omega)) (w10 i hi), ⟨N, e0, hN, hNv, TrN_fr t6 (fun q a b => c6 q (by omega))⟩, z49 1, z49 2, h141 0, h141 1, ?_, ?_, ?_, h142.1, h142.2, h143⟩
  · rw [c6 1 (by omega)]; exact e6.1
  · rw [c6 1 (by omega)]; exact e6.2.1
  · rw [c6 1 (by omega)]; exact e6.2.2
section MT2
variable {hs f : Nat → Int32} {d len : Nat} {M : mM} {Q : mQ}
theorem c_mt0 (hQ : ∀ M' : mM, ClsOk M' → Q (.inl none) cls0 M' 144 4409) : EvP (RO9 hs len f) (d + 11) 95 [.ref 0] [.inr (.inl (6, [.null, .null, .null, .null, .null, .null, .null, .null]))] M Q := by
  obtain ⟨N, e0, hN, hNv⟩ := t0_text
  refine EvP.of rfl ?_
  refine wp_sound [4] 40 _ _ _ _ _ _ _ ?_
  refine g_new (n := 1) (G2 := [.inr (.inl (6, [.null, .null, .null, .null, .null, .null, .null, .null])), .inr (.inl (3, [.null, .null, .int 0, .int 0, .int 0, .int 0, .int 0, .int 0, .int 0, .int 0, .int 0]))]) rfl (by decide) rfl (by decide) rfl ?_
  refine wp_sound [12] 40 _ _ _ _ _ _ _ ?_
  refine c_par0 (by rw [upM_at]) (fun M1 z1 w1 => ?_)
  refine wp_sound [21] 40 _ _ _ _ _ _ _ ?_
  refine c_writeText pw_X z1 (fun M2 f2 p2 b2 => ?_)
  have w2 : widOk M2 3 := ⟨by rw [f2 4 (by decide) (by decide)]; exact w1.1, by rw [f2 6 (by decide) (by decide)]; exact w1.2.1, by rw [f2 8 (by decide) (by decide)]; exact w1.2.2⟩
  refine wp_sound [24] 40 _ _ _ _ _ _ _ ?_
  refine c_tLen.use ?_
  refine wp_sound [27] 40 _ _ _ _ _ _ _ ?_
  refine c_parse (n := 208) (B := t0B) (Z := fun _ => 0) pw_X (fun _ _ => rfl) w2 (by decide) b2 (fun N' m' S' t' e' M3 hp f3 o3 t3 => ?_) (fun k x M3 hp _ _ _ _ _ _ => by rw [hN] at hp; cases hp)
  rw [hN] at hp
  injection hp with hp
  simp only [Prod.mk.injEq] at hp
  obtain ⟨rfl, rfl, rfl, rfl, rfl⟩ := hp
  refine wp_sound [31] 40 _ _ _ _ _ _ _ ?_
  refine c_empty.use ?_
  have t4 : TrN (upM M3 1 (upd (M3 1) 2 0)) 3 N 2 5 3 := TrN_fr t3 (fun q a b => upM_ne (by omega))
  have e4 : (upM M3 1 (upd (M3 1) 2 0)) 1 2 = 0 ∧ (upM M3 1 (upd (M3 1) 2 0)) 1 9 = 0 ∧ (upM M3 1 (upd (M3 1) 2 0)) 1 10 = -1 := ⟨by rw [upM_at, upd_at], by rw [upM_at, upd_ne (by decide)]; exact o3.1, by rw [upM_at, upd_ne (by decide)]; exact o3.2⟩
  generalize upM M3 1 (upd (M3 1) 2 0) = M4 at t4 e4 ⊢
  refine g_new (n := 12) (G2 := gX (.inr (.inl (6, [.null, .null, .null, .null, .null, .null, .null, .null]))) [.inr (.inl (5, [.null, .null, .null, .null, .null, .int 0, .int 0]))]) rfl (by decide) rfl (by decide) rfl ?_
  refine wp_sound [38] 40 _ _ _ _ _ _ _ ?_
  refine c_tr0 (P := gX (.inr (.inl (6, [.null, .null, .null, .null, .null, .null, .null, .null]))) []) (b := 12) (G2 := gX (.inr (.inl (6, [.null, .null, .null, .null, .null, .null, .null, .null]))) (trS 12)) rfl (by decide) rfl rfl (fun M5 f5 w5 => ?_)
  have t5 : TrN M5 3 N 2 5 3 := TrN_fr t4 (fun q a b => by rw [f5 q (by omega), upM_ne (by omega)])
  have g5 : M5 1 = M4 1 := by rw [f5 1 (by omega), upM_ne (by omega)]
  refine wp_sound [47] 40 _ _ _ _ _ _ _ ?_
  refine (c_bec0 ?_ ?_ ?_).use ?_
  · exact w5.1.trans t5.2.2.1.1.symm
  · exact w5.2.1.trans t5.2.2.2.1.1.symm
  · exact w5.2.2.trans t5.2.2.2.2.1.1.symm
  have t6 : TrN (becM M5 12 3) 12 N 2 5 3 := TrN_bec t5 w5.1 w5.2.1 w5.2.2
  have w6 : widOk (becM M5 12 3) 3 := by
    have h9 := TrN_wid t5
    refine ⟨?_, ?_, ?_⟩
    · rw [becM_far (by omega)]; exact h9.1
    · rw [becM_far (by omega)]; exact h9.2.1
    · rw [becM_far (by omega)]; exact h9.2.2
  have e6 : becM M5 12 3 1 2 = 0 ∧ becM M5 12 3 1 9 = 0 ∧ becM M5 12 3 1 10 = -1 := by
    rw [becM_far (by omega), g5]
    exact e4
  generalize becM M5 12 3 = M6 at t6 w6 e6 ⊢
  refine wp_sound [48] 40 _ _ _ _ _ _ _ ?_
  refine g_anew (m := 2) (n := 21) (G2 := gX (.inr (.inl (6, [.null, .null, .null, .null, .null, .null, .null, .null]))) (trS 12 ++ (.inr (.inr (.inl (3, 2, .inr (.inr (.inr (.inr (fun _ => none))))))) :: ([])))) rfl rfl (by decide) rfl (by decide) rfl ?_
  refine wp_sound [64] 40 _ _ _ _ _ _ _ ?_
  refine ⟨fun _ => ?_, fun h => absurd (by decide) h⟩
  refine g_new (n := 22) (G2 := gX (.inr (.inl (6, [.null, .null, .null, .null, .null, .null, .null, .null]))) (trS 12 ++ (.inr (.inr (.inl (3, 2, .inr (.inr (.inr (.inr (fun _ => none))))))) :: ([.inr (.inl (5, [.null, .null, .null, .null, .null, .int 0, .int 0]))])))) rfl (by decide) rfl (by decide) rfl ?_
  refine wp_sound [71] 40 _ _ _ _ _ _ _ ?_
  refine c_tr0 (P := gX (.inr (.inl (6, [.null, .null, .null, .null, .null, .null, .null, .null]))) (trS 12 ++ (.inr (.inr (.inl (3, 2, .inr (.inr (.inr (.inr (fun _ => none))))))) :: ([])))) (b := 22) (G2 := gX (.inr (.inl (6, [.null, .null, .null, .null, .null, .null, .null, .null]))) (trS 12 ++ (.inr (.inr (.inl (3, 2, .inr (.inr (.inr (.inr (fun _ => none))))))) :: (trS 22)))) rfl (by decide) rfl rfl (fun M7 f7 w7 => ?_)
  refine g_aast (j := 0) (n := 2) (G2 := gX (.inr (.inl (6, [.null, .null, .null, .null, .null, .null, .null, .null]))) (trS 12 ++ (.inr (.inr (.inl (3, 2, .inr (.inr (.inr (.inr (va_up (fun _ => none) 0 (some 22)))))))) :: (trS 22)))) rfl (by decide) (by decide) rfl (by decide) (by decide) rfl rfl rfl ?_
  refine wp_sound [64] 40 _ _ _ _ _ _ _ ?_
  refine ⟨fun _ => ?_, fun h => absurd (by decide) h⟩
  refine g_new (n := 31) (G2 := gX (.inr (.inl (6, [.null, .null, .null, .null, .null, .null, .null, .null]))) (trS 12 ++ (.inr (.inr (.inl (3, 2, .inr (.inr (.inr (.inr (va_up (fun _ => none) 0 (some 22)))))))) :: (trS 22 ++ [.inr (.inl (5, [.null, .null, .null, .null, .null, .int 0, .int 0]))])))) rfl (by decide) rfl (by decide) rfl ?_
  refine wp_sound [71] 40 _ _ _ _ _ _ _ ?_
  refine c_tr0 (P := gX (.inr (.inl (6, [.null, .null, .null, .null, .null, .null, .null, .null]))) (trS 12 ++ (.inr (.inr (.inl (3, 2, .inr (.inr (.inr (.inr (va_up (fun _ => none) 0 (some 22)))))))) :: (trS 22)))) (b := 31) (G2 := gX (.inr (.inl (6, [.null, .null, .null, .null, .null, .null, .null, .null]))) (trS 12 ++ (.inr (.inr (.inl (3, 2, .inr (.inr (.inr (.inr (va_up (fun _ => none) 0 (some 22)))))))) :: (trS 22 ++ trS 31)))) rfl (by decide) rfl rfl (fun M8 f8 w8 => ?_)
  refine g_aast (j := 1) (n := 2) (G2 := gX (.inr (.inl (6, [.null, .null, .null, .null, .null, .null, .null, .null]))) (trS 12 ++ (.inr (.inr (.inl (3, 2, .inr (.inr (.inr (.inr (va_up (va_up (fun _ => none) 0 (some 22)) 1 (some 31)))))))) :: (trS 22 ++ trS 31)))) rfl (by decide) (by decide) rfl (by decide) (by decide) rfl rfl rfl ?_
  refine wp_sound [80] 40 _ _ _ _ _ _ _ ?_
  refine ⟨fun h => absurd h (by decide), fun _ => ?_⟩
  refine g_putR (G2 := gX (.inr (.inl (6, [.null, .null, .null, .null, .null, .ref 1, .null, .null]))) (trS 12 ++ (.inr (.inr (.inl (3, 2, .inr (.inr (.inr (.inr (va_up (va_up (fun _ => none) 0 (some 22)) 1 (some 31)))))))) :: (trS 22 ++ trS 31)))) (Or.inr (Or.inr rfl)) rfl (by decide) rfl rfl (by decide) (fun a e => by cases e) rfl ?_
  refine wp_sound [85] 40 _ _ _ _ _ _ _ ?_
  refine g_putR (G2 := gX (.inr (.inl (6, [.ref 12, .null, .null, .null, .null, .ref 1, .null, .null]))) (trS 12 ++ (.inr (.inr (.inl (3, 2, .inr (.inr (.inr (.inr (va_up (va_up (fun _ => none) 0 (some 22)) 1 (some 31)))))))) :: (trS 22 ++ trS 31)))) (Or.inr (Or.inr rfl)) rfl (by decide) rfl rfl (by decide) (fun a e => by cases e) rfl ?_
  refine wp_sound [89] 40 _ _ _ _ _ _ _ ?_
  refine g_new (n := 40) (G2 := gX (.inr (.inl (6, [.ref 12, .null, .null, .null, .null, .ref 1, .null, .null]))) (trS 12 ++ (.inr (.inr (.inl (3, 2, .inr (.inr (.inr (.inr (va_up (va_up (fun _ => none) 0 (some 22)) 1 (some 31)))))))) :: (trS 22 ++ (trS 31 ++ [.inr (.inl (5, [.null, .null, .null, .null, .null, .int 0, .int 0]))]))))) rfl (by decide) rfl (by decide) rfl ?_
  refine wp_sound [96] 40 _ _ _ _ _ _ _ ?_
  refine c_tr0 (P := gX (.inr (.inl (6, [.ref 12, .null, .null, .null, .null, .ref 1, .null, .null]))) (trS 12 ++ (.inr (.inr (.inl (3, 2, .inr (.inr (.inr (.inr (va_up (va_up (fun _ => none) 0 (some 22)) 1 (some 31)))))))) :: (trS 22 ++ trS 31)))) (b := 40) (G2 := gX (.inr (.inl (6, [.ref 12, .null, .null, .null, .null, .ref 1, .null, .null]))) (trS 12 ++ (.inr (.inr (.inl (3, 2, .inr (.inr (.inr (.inr (va_up (va_up (fun _ => none) 0 (some 22)) 1 (some 31)))))))) :: (trS 22 ++ (trS 31 ++ trS 40))))) rfl (by decide) rfl rfl (fun M9 f9 w9 => ?_)
  refine g_putR (G2 := gX (.inr (.inl (6, [.ref 12, .ref 40, .null, .null, .null, .ref 1, .null, .null]))) (trS 12 ++ (.inr (.inr (.inl (3, 2, .inr (.inr (.inr (.inr (va_up (va_up (fun _ => none) 0 (some 22)) 1 (some 31)))))))) :: (trS 22 ++ (trS 31 ++ trS 40))))) (Or.inr (Or.inr rfl)) rfl (by decide) rfl rfl (by decide) (fun a e => by cases e) rfl ?_
  refine wp_sound [100] 40 _ _ _ _ _ _ _ ?_
  refine g_new (n := 49) (G2 := gX (.inr (.inl (6, [.ref 12, .ref 40, .null, .null, .null, .ref 1, .null, .null]))) (trS 12 ++ (.inr (.inr (.inl (3, 2, .inr (.inr (.inr (.inr (va_up (va_up (fun _ => none) 0 (some 22)) 1 (some 31)))))))) :: (trS 22 ++ (trS 31 ++ (trS 40 ++ [.inr (.inl (2, [.null, .int 0, .int 0]))])))))) rfl (by decide) rfl (by decide) rfl ?_
  refine wp_sound [107] 40 _ _ _ _ _ _ _ ?_
  refine c_his0 (P := gX (.inr (.inl (6, [.ref 12, .ref 40, .null, .null, .null, .ref 1, .null, .null]))) (trS 12 ++ (.inr (.inr (.inl (3, 2, .inr (.inr (.inr (.inr (va_up (va_up (fun _ => none) 0 (some 22)) 1 (some 31)))))))) :: (trS 22 ++ (trS 31 ++ trS 40))))) (h := 49) (G2 := gX (.inr (.inl (6, [.ref 12, .ref 40, .null, .null, .null, .ref 1, .null, .null]))) (trS 12 ++ (.inr (.inr (.inl (3, 2, .inr (.inr (.inr (.inr (va_up (va_up (fun _ => none) 0 (some 22)) 1 (some 31)))))))) :: (trS 22 ++ (trS 31 ++ (trS 40 ++ (hisS 49 (hf 49 10) ++ trs 49 10))))))) rfl (by decide) rfl rfl (fun M10 f10 w10 => ?_)
  refine g_putR (G2 := gX (.inr (.inl (6, [.ref 12, .ref 40, .ref 49, .null, .null, .ref 1, .null, .null]))) (trS 12 ++ (.inr (.inr (.inl (3, 2, .inr (.inr (.inr (.inr (va_up (va_up (fun _ => none) 0 (some 22)) 1 (some 31)))))))) :: (trS 22 ++ (trS 31 ++ (trS 40 ++ (hisS 49 (hf 49 10) ++ trs 49 10))))))) (Or.inr (Or.inr rfl)) rfl (by decide) rfl rfl (by decide) (fun a e => by cases e) rfl ?_
  refine wp_sound [112] 40 _ _ _ _ _ _ _ ?_
  refine g_putR (G2 := gX (.inr (.inl (6, [.ref 12, .ref 40, .ref 49, .ref 21, .null, .ref 1, .null, .null]))) (trS 12 ++ (.inr (.inr (.inl (3, 2, .inr (.inr (.inr (.inr (va_up (va_up (fun _ => none) 0 (some 22)) 1 (some 31)))))))) :: (trS 22 ++ (trS 31 ++ (trS 40 ++ (hisS 49 (hf 49 10) ++ trs 49 10))))))) (Or.inr (Or.inr rfl)) rfl (by decide) rfl rfl (by decide) (fun a e => by cases e) rfl ?_
  refine wp_sound [117] 40 _ _ _ _ _ _ _ ?_
  refine g_arr (m := 2) (n := 141) (G2 := gX (.inr (.inl (6, [.ref 12, .ref 40, .ref 49, .ref 21, .null, .ref 1, .null, .null]))) (trS 12 ++ (.inr (.inr (.inl (3, 2, .inr (.inr (.inr (.inr (va_up (va_up (fun _ => none) 0 (some 22)) 1 (some 31)))))))) :: (trS 22 ++ (trS 31 ++ (trS 40 ++ ((hisS 49 (hf 49 10) ++ trs 49 10) ++ [.inl (2, 2)]))))))) rfl (by decide) rfl (by decide) rfl (by decide) rfl ?_
  refine g_putR (G2 := gX (.inr (.inl (6, [.ref 12, .ref 40, .ref 49, .ref 21, .ref 141, .ref 1, .null, .null]))) (trS 12 ++ (.inr (.inr (.inl (3, 2, .inr (.inr (.inr (.inr (va_up (va_up (fun _ => none) 0 (some 22)) 1 (some 31)))))))) :: (trS 22 ++ (trS 31 ++ (trS 40 ++ ((hisS 49 (hf 49 10) ++ trs 49 10) ++ [.inl (2, 2)]))))))) (Or.inr (Or.inr rfl)) rfl (by decide) rfl rfl (by decide) (fun a e => by cases e) rfl ?_
  refine wp_sound [123] 40 _ _ _ _ _ _ _ ?_
  refine g_new (n := 142) (G2 := gX (.inr (.inl (6, [.ref 12, .ref 40, .ref 49, .ref 21, .ref 141, .ref 1, .null, .null]))) (trS 12 ++ (.inr (.inr (.inl (3, 2, .inr (.inr (.inr (.inr (va_up (va_up (fun _ => none) 0 (some 22)) 1 (some 31)))))))) :: (trS 22 ++ (trS 31 ++ (trS 40 ++ ((hisS 49 (hf 49 10) ++ trs 49 10) ++ [.inl (2, 2), .inr (.inl (1, [.null, .int 0, .int 0, .int 0]))]))))))) rfl (by decide) rfl (by decide) rfl ?_
  refine wp_sound [130] 40 _ _ _ _ _ _ _ ?_
  refine EvP.of rfl ?_
  refine wp_sound [6] 40 _ _ _ _ _ _ _ ?_
  refine EvP.of rfl ?_
  refine wp_sound [12] 40 _ _ _ _ _ _ _ ?_
  refine ⟨fun h => absurd h (by decide), fun _ => ?_⟩
  refine g_arr (m := 16) (n := 143) (G2 := gX (.inr (.inl (6, [.ref 12, .ref 40, .ref 49, .ref 21, .ref 141, .ref 1, .null, .null]))) (trS 12 ++ (.inr (.inr (.inl (3, 2, .inr (.inr (.inr (.inr (va_up (va_up (fun _ => none) 0 (some 22)) 1 (some 31)))))))) :: (trS 22 ++ (trS 31 ++ (trS 40 ++ ((hisS 49 (hf 49 10) ++ trs 49 10) ++ [.inl (2, 2), .inr (.inl (1, [.null, .int 0, .int 0, .int 0])), .inl (0, 16)]))))))) rfl (by decide) rfl (by decide) rfl (by decide) rfl ?_
  refine g_putR (G2 := gX (.inr (.inl (6, [.ref 12, .ref 40, .ref 49, .ref 21, .ref 141, .ref 1, .null, .null]))) (trS 12 ++ (.inr (.inr (.inl (3, 2, .inr (.inr (.inr (.inr (va_up (va_up (fun _ => none) 0 (some 22)) 1 (some 31)))))))) :: (trS 22 ++ (trS 31 ++ (trS 40 ++ ((hisS 49 (hf 49 10) ++ trs 49 10) ++ [.inl (2, 2), .inr (.inl (1, [.ref 143, .int 0, .int 0, .int 0])), .inl (0, 16)]))))))) (Or.inl rfl) rfl (by decide) rfl rfl (by decide) (fun a e => by cases e) rfl ?_
  refine wp_sound [19] 40 _ _ _ _ _ _ _ ?_
  refine g_putI (z := 0) (Or.inl rfl) rfl (by decide) rfl rfl rfl ?_
  refine wp_sound [38] 40 _ _ _ _ _ _ _ ?_
  refine wp_sound [] 1 _ _ _ _ _ _ _ ?_
  refine wp_sound [] 1 _ _ _ _ _ _ _ ?_
  refine g_putR (G2 := gX (.inr (.inl (6, [.ref 12, .ref 40, .ref 49, .ref 21, .ref 141, .ref 1, .ref 142, .null]))) (trS 12 ++ (.inr (.inr (.inl (3, 2, .inr (.inr (.inr (.inr (va_up (va_up (fun _ => none) 0 (some 22)) 1 (some 31)))))))) :: (trS 22 ++ (trS 31 ++ (trS 40 ++ ((hisS 49 (hf 49 10) ++ trs 49 10) ++ [.inl (2, 2), .inr (.inl (1, [.ref 143, .int 0, .int 0, .int 0])), .inl (0, 16)]))))))) (Or.inr (Or.inr rfl)) rfl (by decide) rfl rfl (by decide) (fun a e => by cases e) rfl ?_
  refine wp_sound [137] 40 _ _ _ _ _ _ _ ?_
  refine g_arr (m := 301) (n := 144) (G2 := gX (.inr (.inl (6, [.ref 12, .ref 40, .ref 49, .ref 21, .ref 141, .ref 1, .ref 142, .null]))) clsR) rfl (by decide) rfl (by decide) rfl (by decide) rfl ?_
  refine g_putR (G2 := cls0) (Or.inr (Or.inr rfl)) rfl (by decide) rfl rfl (by decide) (fun a e => by cases e) ?_ ?_
  · exact Eq.trans rfl cls_eq
  refine wp_sound [] 1 _ _ _ _ _ _ _ ?_
  refine hQ _ (cls_fin hN hNv t6 w6 e6 f7 w7 f8 w8 f9 w9 f10 w10 (fun q hq => ?_) (fun j => ?_) ⟨?_, ?_⟩ (fun j => ?_))
  · rw [upM_ne (by omega), upM_ne (by omega), upM_ne (by omega), upM_ne (by omega), upM_ne (by omega)]
  · rw [upM_ne (by decide), upM_ne (by decide), upM_ne (by decide), upM_ne (by decide), upM_at]
  · rw [upM_ne (by decide), upM_at, upd_at]
  · rw [upM_ne (by decide), upM_at, upd_ne (by decide), upM_ne (by decide), upM_at]
  · rw [upM_ne (by decide), upM_ne (by decide), upM_at]
end MT2
