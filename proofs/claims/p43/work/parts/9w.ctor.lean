/-! the class's constructor -/
section MT
variable {hs f : Nat → Int32} {d len : Nat} {RO : List mE} {M : mM} {Q : mQ} {c0 : sh}
theorem c_par0 (h0 : M 1 2 = 0) (hQ : ∀ M' : mM, M' 1 2 = 0 → widOk M' 3 → Q (.inl none) (gX c0 []) M' 10 924) : EvP RO (d + 3) 8 [.ref 1] [c0, .inr (.inl (3, [.null, .null, .int 0, .int 0, .int 0, .int 0, .int 0, .int 0, .int 0, .int 0, .int 0]))] M Q := by
  refine EvP.of rfl ?_
  refine wp_sound [8] 40 _ _ _ _ _ _ _ ?_
  refine g_arr (m := 700) (n := 2) (G2 := [c0, .inr (.inl (3, [.null, .null, .int 0, .int 0, .int 0, .int 0, .int 0, .int 0, .int 0, .int 0, .int 0])), .inl (0, 700)]) rfl (by decide) rfl (by decide) rfl (by decide) rfl ?_
  refine g_putR (G2 := [c0, .inr (.inl (3, [.ref 2, .null, .int 0, .int 0, .int 0, .int 0, .int 0, .int 0, .int 0, .int 0, .int 0])), .inl (0, 700)]) (Or.inr (Or.inr rfl)) rfl (by decide) rfl rfl (by decide) (fun a e => by cases e) rfl ?_
  refine wp_sound [14] 40 _ _ _ _ _ _ _ ?_
  refine g_new (n := 3) (G2 := [c0, .inr (.inl (3, [.ref 2, .null, .int 0, .int 0, .int 0, .int 0, .int 0, .int 0, .int 0, .int 0, .int 0])), .inl (0, 700), .inr (.inl (5, [.null, .null, .null, .null, .null, .int 0, .int 0]))]) rfl (by decide) rfl (by decide) rfl ?_
  refine wp_sound [21] 40 _ _ _ _ _ _ _ ?_
  refine c_tr0 (P := [c0, .inr (.inl (3, [.ref 2, .null, .int 0, .int 0, .int 0, .int 0, .int 0, .int 0, .int 0, .int 0, .int 0])), .inl (0, 700)]) (b := 3) (G2 := [c0, .inr (.inl (3, [.ref 2, .null, .int 0, .int 0, .int 0, .int 0, .int 0, .int 0, .int 0, .int 0, .int 0])), .inl (0, 700)] ++ trS 3) rfl (by decide) rfl rfl (fun M2 f2 w2 => ?_)
  refine g_putR (G2 := gX c0 []) (Or.inr (Or.inr rfl)) rfl (by decide) rfl rfl (by decide) (fun a e => by cases e) rfl ?_
  refine wp_sound [26] 40 _ _ _ _ _ _ _ ?_
  refine g_putI (z := 0) (Or.inl rfl) rfl (by decide) rfl rfl rfl ?_
  refine wp_sound [] 1 _ _ _ _ _ _ _ ?_
  refine hQ _ ?_ ?_
  · rw [upM_at, upd_ne (by decide), f2 1 (by omega), upM_ne (by decide), upM_ne (by decide)]
    exact h0
  · obtain ⟨a1, a2, a3⟩ := w2
    refine ⟨?_, ?_, ?_⟩
    · rw [upM_ne (by decide)]; exact a1
    · rw [upM_ne (by decide)]; exact a2
    · rw [upM_ne (by decide)]; exact a3
theorem c_bec0 (w1 : M 13 0 = M 4 0) (w3 : M 15 0 = M 6 0) (w5 : M 17 0 = M 8 0) : EvR RO (d + 2) 40 [.ref 12, .ref 3] (gX c0 (trS 12)) M none (becM M 12 3) := by
  refine EvP.wp [] 60 rfl ?_
  refine EvP.wp [] 60 rfl ?_
  refine ⟨fun _ => ?_, fun h => absurd rfl h⟩
  refine ⟨fun _ => ?_, fun h => absurd w1.symm h⟩
  refine ⟨by decide, ?_⟩
  refine EvP.wp [] 60 rfl ?_
  refine ⟨fun _ => ?_, fun h => absurd rfl h⟩
  refine ⟨fun _ => ?_, fun h => absurd w3.symm h⟩
  refine ⟨by decide, ?_⟩
  refine EvP.wp [] 60 rfl ?_
  refine ⟨fun _ => ?_, fun h => absurd rfl h⟩
  refine ⟨fun _ => ?_, fun h => absurd w5.symm h⟩
  refine ⟨by decide, ?_⟩
  refine ⟨by decide, ?_⟩
  refine ⟨by decide, ?_⟩
  exact ⟨rfl, rfl, rfl, rfl, rfl⟩
theorem c_empty : EvR RO (d + 1) 6 [.ref 1] (gX c0 []) M none (upM M 1 (upd (M 1) 2 0)) := by
  refine EvP.wp [] 60 rfl ?_
  exact ⟨rfl, rfl, rfl, rfl, rfl⟩
end MT
/-- the first train as the reference has it -/
def nowL : List Int32 := [20, 10, 3, 2, 5, 3, 0, 0, 0, 0, 0, 0, 0, 0, 0, 100, 0, 106, 101, 110, 0, 0, 0, 60, 0, 109, 111, 108, 108, 0, 0, 0, 0, 0, 0, 0, 0, 0, 0, 0, 0, 0, 0, 0, 0, 0, 0, 0, 0, 0, 0, 0, 0, 0, 0, 0, 0, 0, 0, 0, 0, 0, 0, 0, 30, 40, 1, 0, 0, -1, 40, 1, 20, 60, 1, 1, 0, -1, 60, 2, 50, 30, 0, -1, -1, -1, 30, 3, 10, 90, 1, 0, 1, -1, 90, 0, 25, 20, 0, -1, -1, -1, 20, 0, 0, 0, 0, 0, 0, 0, 0, 0, 0, 0, 0, 0, 0, 0, 0, 0, 0, 0, 0, 0, 0, 0, 0, 0, 0, 0, 0, 0, 0, 0, 0, 0, 0, 0, 0, 0, 0, 0, 0, 0, 0, 0, 0, 0, 0, 0, 0, 0, 0, 0, 0, 0, 0, 0, 0, 0, 0, 0, 0, 0, 0, 0, 0, 0, 0, 0, 0, 0, 0, 0, 0, 0, 0, 0, 0, 0, 0, 0, 0, 0, 0, 0, 0, 0, 0, 0, 0, 0, 40, 1, 5, 2, 8, 0, 0, 0, 0, 0, 0, 0, 0, 0, 0]
def t0_chk : Bool := match pText (fun _ => 0) t0B 208 with
  | .inr (N, m, S, t, _) => Nat.beq m 2 && Nat.beq S 5 && Nat.beq t 3 && (List.range 207).all (fun j => decide (N j = nowL.getD j 0))
  | .inl _ => false
set_option maxRecDepth 100000 in
theorem t0_chk_ok : t0_chk = true := by decide +kernel
theorem t0_text : ∃ N e, pText (fun _ => 0) t0B 208 = .inr (N, 2, 5, 3, e) ∧ ∀ j, j < 207 → N j = nowL.getD j 0 := by
  have h := t0_chk_ok
  unfold t0_chk at h
  split at h
  · rename_i N m S t e he
    simp only [Bool.and_eq_true] at h
    obtain ⟨⟨⟨h1, h2⟩, h3⟩, h4⟩ := h
    cases Nat.eq_of_beq_eq_true h1
    cases Nat.eq_of_beq_eq_true h2
    cases Nat.eq_of_beq_eq_true h3
    exact ⟨N, e, he, fun j hj => of_decide_eq_true (List.all_eq_true.mp h4 j (List.mem_range.mpr hj))⟩
  · cases h
/-- what stands behind the constructor -/
def clsR : List sh := trS 12 ++ (.inr (.inr (.inl (3, 2, .inr (.inr (.inr (.inr (va_up (va_up (fun _ => none) 0 (some 22)) 1 (some 31)))))))) :: (trS 22 ++ (trS 31 ++ (trS 40 ++ ((hisS 49 (hf 49 10) ++ trs 49 10) ++ [.inl (2, 2), .inr (.inl (1, [.ref 143, .int 0, .int 0, .int 0])), .inl (0, 16), .inl (1, 301)])))))
theorem hf_49 : hf 49 10 = xrefs [51, 60, 69, 78, 87, 96, 105, 114, 123, 132] := by
  funext k
  match k with
  | 0 => rfl
  | 1 => rfl
  | 2 => rfl
  | 3 => rfl
  | 4 => rfl
  | 5 => rfl
  | 6 => rfl
  | 7 => rfl
  | 8 => rfl
  | 9 => rfl
  | j + 10 => simp [hf, va_up, xrefs]
theorem va_22 : va_up (va_up (fun _ => none) 0 (some 22)) 1 (some 31) = xrefs [22, 31] := by
  funext k
  match k with
  | 0 => rfl
  | 1 => rfl
  | j + 2 => simp [va_up, xrefs]
def cls0 : List sh := (gW 143 []).take 145
theorem cls_eq : gX (.inr (.inl (6, [.ref 12, .ref 40, .ref 49, .ref 21, .ref 141, .ref 1, .ref 142, .ref 144]))) clsR = cls0 := by
  unfold clsR
  rw [hf_49, va_22]
  rfl
/-- the class's part of the start -/
def ClsOk (M : mM) : Prop := widOk M 3 ∧ widOk M 22 ∧ widOk M 31 ∧ widOk M 40 ∧ (∀ i, i < 10 → widOk M (51 + 9 * i)) ∧ (∃ N e, pText (fun _ => 0) t0B 208 = .inr (N, 2, 5, 3, e) ∧ (∀ j, j < 207 → N j = nowL.getD j 0) ∧ TrN M 12 N 2 5 3) ∧ M 49 1 = 0 ∧ M 49 2 = 0 ∧ M 141 0 = 0 ∧ M 141 1 = 0 ∧ M 1 2 = 0 ∧ M 1 9 = 0 ∧ M 1 10 = -1 ∧ M 142 1 = 0 ∧ M 142 3 = 0 ∧ ∀ j, M 143 j = 0
