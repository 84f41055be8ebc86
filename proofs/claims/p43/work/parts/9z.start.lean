/-! the law from its start to its end -/
section BEG
variable {hs f : Nat → Int32} {len d : Nat} {M : mM} {Q : mQ}
theorem law_start (hlen : len ≤ 100000) (hQ : ∀ (G' : List sh) (M' : mM) (mc ms : Nat), mc ≤ 2000 → ms ≤ 800000 → Q (.inl (some (.int 1))) G' M' mc ms) : GoP (RO9 hs len f) (d + 30) 375 [.ref 1000108, .retAddr 0, .retAddr 0, .retAddr 0, .retAddr 0, .retAddr 0, .retAddr 0, .retAddr 0, .retAddr 0, .retAddr 0, .retAddr 0] [] [] M 0 0 0 Q := by
  have hb : cls0.length = 145 := by decide +kernel
  refine g_new (n := 0) (G2 := [.inr (.inl (6, [.null, .null, .null, .null, .null, .null, .null, .null]))]) rfl (by decide) rfl (by decide) rfl ?_
  refine wp_sound [9] 40 _ _ _ _ _ _ _ ?_
  refine c_mt0 (d := d + 19) (fun M1 h1 => ?_)
  refine g_arr (n := 145) (m := 1) (G2 := gW 143 [.inl (1, 1)]) rfl (by decide) rfl (by decide) hb (by decide) rfl ?_
  obtain ⟨w3, w22, w31, w40, w51, ⟨N, e, hN, hNv, hT⟩, a1, a2, a3, a4, a5, _⟩ := h1
  have hI : ∀ F : Nat → Int32, ∀ F2 : Nat → Int32, LI (upM (upM M1 145 F) 145 F2) N 2 5 3 := fun F F2 => LI.fr (M := M1) ⟨⟨w3, w22, w31, w40⟩, ⟨0, 0, by omega, by omega, a1, a2, w51⟩, hT, a5⟩ (fun q hq => by rw [upM_ne (by omega), upM_ne (by omega)])
  refine wp_sound [26, 34] 40 _ _ _ _ _ _ _ ?_
  refine eq_if (a := len) (b := 0) rfl rfl (by omega) (by omega) (fun _ => ?_) (fun h9 => ?_)
  · refine ⟨0, rfl, by omega, ?_⟩
    exact law_q hlen hQ 0 (by omega) [] _ N 2 5 3 _ _ _ _ _ _ _ _ (hI _ _) (Nat.zero_le _) (by decide) (by decide)
  · refine g_iald (n := len) (f := f) rfl rfl (by omega) (j := 0) rfl (by omega) ?_
    refine wp_sound [34] 40 _ _ _ _ _ _ _ ?_
    refine ⟨0, rfl, by omega, ?_⟩
    exact law_q hlen hQ 0 (by omega) [] _ N 2 5 3 _ _ _ _ _ _ _ _ (hI _ _) (Nat.zero_le _) (by decide) (by decide)
theorem law_all (hlen : len ≤ 100000) : ∃ (G' : List sh) (M' : mM) (mc ms F n : Nat), mgo (RO9 hs len f) (mrun (RO9 hs len f) F (d + 30)) 375 n [.ref 1000108, .retAddr 0, .retAddr 0, .retAddr 0, .retAddr 0, .retAddr 0, .retAddr 0, .retAddr 0, .retAddr 0, .retAddr 0, .retAddr 0] [] [] 0 0 0 = some (.inl (some (.int 1)), wof G' M', mc, ms) ∧ mc ≤ 2000 ∧ ms ≤ 800000 := by
  have h : GoP (RO9 hs len f) (d + 30) 375 [.ref 1000108, .retAddr 0, .retAddr 0, .retAddr 0, .retAddr 0, .retAddr 0, .retAddr 0, .retAddr 0, .retAddr 0, .retAddr 0, .retAddr 0] [] [] (fun _ _ => 0) 0 0 0 (fun o _ _ mc ms => o = .inl (some (.int 1)) ∧ mc ≤ 2000 ∧ ms ≤ 800000) :=
    law_start hlen (fun G' M2 mc ms h1 h2 => ⟨rfl, h1, h2⟩)
  obtain ⟨o, G', M', mc, ms, F, n, h1, rfl, h2, h3⟩ := h
  exact ⟨G', M', mc, ms, F, n, h1, h2, h3⟩
end BEG
