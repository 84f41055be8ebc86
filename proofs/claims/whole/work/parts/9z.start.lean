/-! the law's start -/
theorem f2d_0 : FP.f2d 0 = 0 := by decide +kernel
theorem marr_4 : marr 4 (1 : Int32).toNatClampNeg = scell (.inl (4, 1)) (fun _ => 0) := by
  have e : (1 : Int32).toNatClampNeg = 1 := by decide
  rw [e]
  simp only [marr, scell, show Nat.beq 4 4 = true from rfl, cond_true]
  rfl
theorem marr_5 : marr 5 (1 : Int32).toNatClampNeg = scell (.inl (5, 1)) (fun _ => 0) := by
  have e : (1 : Int32).toNatClampNeg = 1 := by decide
  have e0 : ((0 : Int32).toUInt32) = 0 := by decide
  rw [e]
  simp only [marr, scell, show Nat.beq 5 4 = false from rfl, show Nat.beq 5 5 = true from rfl, cond_true, cond_false, e0, f2d_0]
section START
variable {RO : List mE} {d k pc c s nx op : Nat} {L r : List Value} {G G2 : List sh} {M : mM} {Q : mQ} {x : List Nat} {v : Value}
theorem go_new9 {n : Nat} (hcd : cd k pc = some (6, op, nx, x, v)) (hm : marr op (1 : Int32).toNatClampNeg = scell (.inl (op, 1)) (fun _ => 0)) (hG : G.length = n) (hn : n < 1000000) (hG2 : G ++ [.inl (op, 1)] = G2) (h : GoP RO d k L (.ref n :: r) G2 (upM M n (fun _ => 0)) nx (c + 1) (s + 1) Q) : GoP RO d k L (.int 1 :: r) G M pc c s Q := by
  subst hG2 hG
  refine GoP.step 0 hcd (mstep6.trans ((mnew_go (by decide) (by decide) (by rw [wof_len]; exact Nat.ble_eq_true_of_le hn)).trans ?_)) h
  rw [hm, wof_push, wof_len]
  rfl
end START
theorem law_inv {M M' : mM} (hC : ClsOk M) (hD : ModOk M M') : Inv 143 [] (upM (upM M' 157 (fun _ => 0)) 158 (fun _ => 0)) := by
  obtain ⟨w3, w22, w31, w40, w51, ⟨N, e, hN, hNv, hT⟩, a1, a2, a3, a4, a5, a6, a7, a8, a9, a10⟩ := hC
  obtain ⟨f, z, z17, hk, hn⟩ := hD
  generalize hMf : upM (upM M' 157 (fun _ => 0)) 158 (fun _ => 0) = Mf
  have g : ∀ q, q < 157 → Mf q = M' q := fun q hq => by rw [← hMf, upM_ne (by omega), upM_ne (by omega)]
  have g0 : ∀ q, q < 145 → Mf q = M q := fun q hq => (g q (by omega)).trans (f q hq)
  have wd : ∀ b, b + 5 < 145 → widOk M b → widOk Mf b := fun b hb h => ⟨by rw [g0 _ (by omega)]; exact h.1, by rw [g0 _ (by omega)]; exact h.2.1, by rw [g0 _ (by omega)]; exact h.2.2⟩
  have hM : ∀ j, j < 207 → Mf 149 j = N j := fun j hj => by rw [g 149 (by omega), hn j hj, hNv j hj]
  have zz : ∀ j, j ≠ 17 → Mf 145 j = 0 := fun j hj => by rw [g 145 (by omega)]; exact z j hj
  refine ⟨⟨2, 5, 3, TrN_congr hM (TrN_fr hT (fun q x y => g0 q (by omega))), rOk_congr hM (ok_text (fun _ _ => rfl) hN)⟩, ⟨wd 3 (by omega) w3, wd 40 (by omega) w40⟩, ⟨0, 0, by omega, by omega, by rw [g0 49 (by omega)]; exact a1, by rw [g0 49 (by omega)]; exact a2, zz 7 (by omega), fun i hi => wd _ (by omega) (w51 i hi), fun i hi => absurd hi (by omega)⟩, ⟨0, by omega, zz 9 (by omega), wd 22 (by omega) w22, wd 31 (by omega) w31, fun k hk2 => ⟨?_, fun h => absurd h (by simp)⟩⟩, ⟨0, by omega, by rw [g0 1 (by omega)]; exact a5, zz 13 (by omega), fun j hj => absurd hj (by omega)⟩, ⟨?_, ?_⟩, ⟨0, by omega, by omega, by decide, ⟨rfl, rfl⟩, Or.inl rfl, by omega, zz 15 (by omega), by rw [g0 142 (by omega)]; exact a8, by rw [g0 142 (by omega)]; exact a9, fun j hj => absurd hj (by omega), fun j hj => ?_⟩, ?_⟩
  · rw [g0 141 (by omega)]
    rcases (show k = 0 ∨ k = 1 by omega) with rfl | rfl
    · rw [a3]; rfl
    · rw [a4]; rfl
  · rw [g0 1 (by omega), zz 16 (by omega)]; exact a6
  · rw [g0 1 (by omega), g 145 (by omega), z17]; exact a7
  · rw [g0 143 (by omega), a10 j]; rfl
  · exact key_fr hk (g 146 (by omega)) (g 147 (by omega)) (g 148 (by omega))
section LAWS
variable {hs : Nat → Int32} {d len : Nat} {f : Nat → Int32} {M : mM} {Q : mQ}
theorem law_start (hQ : ∀ M' : mM, Inv 143 [] M' → GoP (RO9 hs len f) (d + 30) 358 (lawL 0 (.retAddr 0) (.retAddr 0) (.retAddr 0) (.retAddr 0)) [] (gW 143 []) M' 28 159 8560 Q) : GoP (RO9 hs len f) (d + 30) 358 [.ref 1000108, .retAddr 0, .retAddr 0, .retAddr 0, .retAddr 0, .retAddr 0, .retAddr 0, .retAddr 0, .retAddr 0, .retAddr 0] [] [] M 0 0 0 Q := by
  have hb : cls0.length = 145 := by decide +kernel
  refine g_new (n := 0) (G2 := [.inr (.inl (8, [.null, .null, .null, .null, .null, .null, .null, .null]))]) rfl (by decide) rfl (by decide) rfl ?_
  refine wp_sound [7] 40 _ _ _ _ _ _ _ ?_
  refine c_mt0 (d := d + 19) (fun M1 h1 => ?_)
  refine wp_sound [8] 40 _ _ _ _ _ _ _ ?_
  refine g_new (n := 145) (G2 := cls0 ++ [.inr (.inl (9, [.null, .null, .null, .int 0, .null, .null, .null, .int 0, .null, .int 0, .null, .null, .null, .int 0, .null, .int 0, .int 0, .int 0, .int 0, .int 0, .int 0, .int 0, .int 0, .int 0, .int 0]))]) rfl (by decide) hb (by decide) rfl ?_
  refine wp_sound [15] 40 _ _ _ _ _ _ _ ?_
  refine c_mod0 (d := d + 27) upM_at (fun M2 h2 => ?_)
  have h1' : ClsOk (upM M1 145 (fun _ => 0)) := h1.far (by decide)
  refine wp_sound [17] 40 _ _ _ _ _ _ _ ?_
  refine go_new9 (n := 157) (G2 := gM ++ [.inl (4, 1)]) rfl marr_4 (by decide +kernel) (by decide) rfl ?_
  refine wp_sound [21] 40 _ _ _ _ _ _ _ ?_
  refine go_new9 (n := 158) (G2 := gW 143 []) rfl marr_5 (by decide +kernel) (by decide) rfl ?_
  refine wp_sound [28] 40 _ _ _ _ _ _ _ ?_
  exact hQ _ (law_inv h1' h2)
/-- the law, whole: it answers 1, in its room -/
theorem law_all (hlen : len ≤ 3072) : ∃ (G' : List sh) (M' : mM) (mc ms F n : Nat), mgo (RO9 hs len f) (mrun (RO9 hs len f) F (d + 30)) 358 n [.ref 1000108, .retAddr 0, .retAddr 0, .retAddr 0, .retAddr 0, .retAddr 0, .retAddr 0, .retAddr 0, .retAddr 0, .retAddr 0] [] [] 0 0 0 = some (.inl (some (.int 1)), wof G' M', mc, ms) ∧ mc ≤ 700 ∧ ms ≤ 13000 := by
  have h : GoP (RO9 hs len f) (d + 30) 358 [.ref 1000108, .retAddr 0, .retAddr 0, .retAddr 0, .retAddr 0, .retAddr 0, .retAddr 0, .retAddr 0, .retAddr 0, .retAddr 0] [] [] (fun _ _ => 0) 0 0 0 (fun o _ _ mc ms => o = .inl (some (.int 1)) ∧ mc ≤ 700 ∧ ms ≤ 13000) := by
    refine law_start (fun M' hI => ?_)
    refine law_loop (c0 := 159) (s0 := 8560) hlen (fun G' M2 mc ms h1 h2 => ⟨rfl, by omega, by omega⟩) 512 0 (by omega) (by omega) 143 [] M' 159 8560 _ _ _ _ hI (by omega) (by omega)
  obtain ⟨o, G', M', mc, ms, F, n, h1, rfl, h2, h3⟩ := h
  exact ⟨G', M', mc, ms, F, n, h1, h2, h3⟩
end LAWS
