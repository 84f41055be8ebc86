/-! what the law does: its acts -/
def Fix (M M' : mM) : Prop := ∀ q, (q < 12 ∨ 20 < q ∧ q < 40 ∨ q = 141) → M' q = M q
theorem Fix.trans {M M' M'' : mM} (h : Fix M M') (h' : Fix M' M'') : Fix M M'' := fun q hq => (h' q hq).trans (h q hq)
def FrL (M M' : mM) : Prop := (∀ q, (q < 40 ∨ 48 < q) → q ≠ 144 → q ≠ 145 → M' q = M q) ∧ M' 41 0 = M 41 0 ∧ M' 43 0 = M 43 0 ∧ M' 45 0 = M 45 0
theorem FrL.refl {M : mM} : FrL M M := ⟨fun _ _ _ _ => rfl, rfl, rfl, rfl⟩
theorem FrL.trans {M M' M'' : mM} (h : FrL M M') (h' : FrL M' M'') : FrL M M'' := ⟨fun q a b c => (h'.1 q a b c).trans (h.1 q a b c), h'.2.1.trans h.2.1, h'.2.2.1.trans h.2.2.1, h'.2.2.2.trans h.2.2.2⟩
theorem FrQ.L {M M' : mM} (h : FrQ M M') : FrL M M' := ⟨fun q a b _ => h.1 q a b, h.2⟩
theorem FrL.nx {M M' : mM} (h : ∀ q, q ≠ 145 → M' q = M q) : FrL M M' := ⟨fun q _ _ c => h q c, by rw [h 41 (by omega)], by rw [h 43 (by omega)], by rw [h 45 (by omega)]⟩
theorem FrL.Tr {M M' : mM} {N : Nat → Int32} {m S t : Nat} (h : FrL M M') (hT : TrN M 12 N m S t) : TrN M' 12 N m S t := TrN_fr hT (fun q h1 h2 => h.1 q (by omega) (by omega) (by omega))
theorem FrL.wid {M M' : mM} (h : FrL M M') (hw : widOk M 40) : widOk M' 40 := ⟨h.2.1.trans hw.1, h.2.2.1.trans hw.2.1, h.2.2.2.trans hw.2.2⟩
theorem FrL.his {M M' : mM} {nx c : Nat} (h : FrL M M') (hH : I_his M nx c) : I_his M' nx c := his_fr hH (fun q a b => h.1 q (by omega) (by omega) (by omega))
theorem FrL.fix {M M' : mM} (h : FrL M M') : Fix M M' := fun q hq => h.1 q (by omega) (by omega) (by omega)
theorem la_nx {nx : Nat} (h : nx < 10) : laN (nxN nx) = nx ∧ nxN nx < 10 := by
  unfold laN nxN
  split <;> split <;> omega
theorem his_new {M M' : mM} {N : Nat → Int32} {m S t nx c : Nat} (hT : TrN M 12 N m S t) (hH : I_his M nx c) (hF : FrH M nx c M') : ∃ nx' c', I_his M' nx' c' ∧ 0 < c' ∧ TrN M' (51 + 9 * laN nx') N m S t := by
  obtain ⟨a1, a2, a3, a4, a5⟩ := hH
  have e : ∀ q, 20 < q → q ≠ 49 → M' q = becM M (51 + 9 * nx) 12 q := fun q h1 h2 => by rw [hF q (by omega), hisM, upM_ne h2]
  have w := a5 nx a1
  have t1 := TrN_bec (x := 51 + 9 * nx) hT w.1 w.2.1 w.2.2
  have t2 : TrN M' (51 + 9 * nx) N m S t := TrN_fr t1 (fun q h1 h2 => e q (by omega) (by omega))
  have e49 : M' 49 = upd (upd (M 49) 1 (Int32.ofNat (nxN nx))) 2 (Int32.ofNat (if 10 < c + 1 then 10 else c + 1)) := by rw [hF 49 (by omega), hisM, upM_at]
  refine ⟨nxN nx, if 10 < c + 1 then 10 else c + 1, ⟨(la_nx a1).2, by split <;> omega, by rw [e49, upd_ne (by omega)]; exact upd_at, by rw [e49]; exact upd_at, fun i hi => ?_⟩, by split <;> omega, by rw [(la_nx a1).1]; exact t2⟩
  by_cases h : i = nx
  · subst h; exact TrN_wid t2
  · exact wid_fr (a5 i hi) (fun q h1 h2 => by rw [e q (by omega) (by omega), becM_far (by omega)])
theorem FrH.far {M M' : mM} {nx c q : Nat} (hF : FrH M nx c M') (h : q < 12 ∨ 20 < q ∧ q < 49 ∨ 140 < q) (hn : nx < 10) : M' q = M q := by
  rw [hF q (by omega), hisM, upM_ne (by omega), becM_far (by omega)]
def actE (M M' : mM) (N : Nat → Int32) (m S t : Nat) (N' : Nat → Int32) (S' t' D : Nat) : Prop := TrN M' 12 N' m S' t' ∧ (rOk N' m S' t' ∧ vOk N' S' ∧ ∃ D', N' 6 = Int32.ofNat D' ∧ D' ≤ D + 9) ∧ widOk M' 40 ∧ (∃ nx' c', I_his M' nx' c' ∧ 0 < c' ∧ TrN M' (51 + 9 * laN nx') N m S t) ∧ Fix M M'
theorem act_done {M M' : mM} {N N' : Nat → Int32} {m S t S' t' nx c D : Nat} (hT : TrN M 12 N m S t) (hw : widOk M 40) (hH : I_his M nx c) (hF : FrH M nx c M') (hT' : TrN M' 12 N' m S' t') (hR' : rOk N' m S' t') (hv' : vOk N' S') (hD : ∃ D', N' 6 = Int32.ofNat D' ∧ D' ≤ D + 9) : actE M M' N m S t N' S' t' D :=
  ⟨hT', ⟨hR', hv', hD⟩, wid_fr hw (fun q h1 h2 => hF.far (by omega) hH.1), his_new hT hH hF, fun q hq => hF.far (by omega) hH.1⟩
theorem actE.L {M M1 M' : mM} {N N' : Nat → Int32} {m S t S' t' D : Nat} (h : FrL M M1) (hE : actE M1 M' N m S t N' S' t' D) : actE M M' N m S t N' S' t' D := ⟨hE.1, hE.2.1, hE.2.2.1, hE.2.2.2.1, h.fix.trans hE.2.2.2.2⟩
/-- what may be said behind an act -/
def AQ (Q : mQ) (G : List sh) (M : mM) (N : Nat → Int32) (m S t D : Nat) : Prop := ∀ M' mc ms N' S' t', actE M M' N m S t N' S' t' D → mc ≤ 1 → ms ≤ 6 → Q (.inl (some (.int 1))) G M' mc ms
theorem AQ.L {Q : mQ} {G : List sh} {M M1 : mM} {N : Nat → Int32} {m S t D : Nat} (h : FrL M M1) (hA : AQ Q G M N m S t D) : AQ Q G M1 N m S t D := fun M' mc ms N' S' t' hE => hA M' mc ms N' S' t' (hE.L h)
theorem fill_far {i S j : Nat} (n : Nat) (N : Nat → Int32) (h : j < 63) : fillN i S n N j = N j := by
  induction n generalizing N with
  | zero => rfl
  | succ n ih =>
    rw [fillN_s]
    cases hb : bestI N i S S with
    | none => rfl
    | some b =>
      show fillN i S n (fill1 N i S) j = _
      rw [ih, fill1, hb]
      show packN N b _ _ j = _
      rw [packN, upd_ne (by omega), upd_ne (by omega), upd_ne (by omega)]
section ACT
variable {RO : List mE} {d : Nat} {X : List sh} {M : mM} {Q : mQ} {m S t nx c D : Nat} {N : Nat → Int32}
/-- where an act was refused, a setting is set -/
theorem refused {x : Nat} (hx : x ≤ 10) (hT : TrN M 12 N m S t) (hR : rOk N m S t) (hv : vOk N S) (hw : widOk M 40) (hH : I_his M nx c) (hD : N 6 = Int32.ofNat D) (hQ : ∀ (M' : mM) (a : Nat), a < 1000 → actE M M' N m S t (upd N 2 (Int32.ofNat x)) S t D → Q (.inl (some (.int (Int32.ofNat a)))) (gW 143 (.inl (1, 1) :: X)) M' 0 0) : EvP RO (d + 8) 363 [.ref 0, .int 2, .int (Int32.ofNat x)] (gW 143 (.inl (1, 1) :: X)) M Q := by
  obtain ⟨a, a1, a2⟩ := hv.2.1.2
  have hu : u_set N 2 (Int32.ofNat x) = (0, Int32.ofNat a) := by
    rw [u_set, show inB 2 0 2 = true from by decide, show mostT 2 = Int32.ofNat 50 from by decide, show inB (Int32.ofNat x) 0 (Int32.ofNat 50) = true from inB_on (n := 50) (by omega) (by omega) rfl, Bool.and_self, cond_true, show ((2 : Int32)).toNatClampNeg = 2 from by decide, a1]
  refine w_setTo hT hR hH (wCh.yes hu (fun M' t1 f1 => ?_))
  have t1' : TrN M' 12 (upd N 2 (Int32.ofNat x)) m S t := t1
  have hS := hR.1.1.2.2.2.2.1
  exact hQ M' a (by omega) (act_done hT hw hH f1 t1' (rOk_set hR (by omega) (fun h => absurd h (by decide))) (vOk_set (by omega) (fun h => absurd h (by decide)) (fun _ => by omega) hS hv) ⟨D, by rw [upd_ne (by omega)]; exact hD, by omega⟩)
theorem no_sack {v : Int32} (hT : TrN M 12 N m 0 t) : inB v 0 (N 4 - 1) = false := by
  rw [hT.1.2.1]
  by_cases h : v < 0
  · exact inB_lo h
  · exact inB_hi (show (Int32.ofNat 0 - 1 : Int32) < v from by
      have h9 : (0 : Int32) ≤ v := Int32.not_lt.mp h
      exact Int32.lt_of_lt_of_le (show (Int32.ofNat 0 - 1 : Int32) < 0 by decide) h9)
theorem act_1 {i k : Nat} {p : Int32} (hT : TrN M 12 N m S t) (hR : rOk N m S t) (hv : vOk N S) (hw : widOk M 40) (hH : I_his M nx c) (hD : N 6 = Int32.ofNat D) (hD9 : D ≤ 9900) (hi : i < m) (hA : AQ Q (gW 143 (.inl (1, 1) :: X)) M N m S t D) (hk : S = 0 ∧ k = 0 ∧ p = -1 ∨ 0 < S ∧ k < S ∧ p = N (63 + 8 * k + 3)) : GoP RO (d + 9) 353 [.ref 0, .ref 145, .int (Int32.ofNat m), .int (Int32.ofNat S), .int (Int32.ofNat t), .int (Int32.ofNat i), .int (Int32.ofNat k), .int p, .retAddr 0, .retAddr 0, .retAddr 0, .retAddr 0, .retAddr 0, .retAddr 0, .retAddr 0, .retAddr 0, .retAddr 0, .retAddr 0, .retAddr 0, .retAddr 0, .retAddr 0, .retAddr 0, .retAddr 0, .retAddr 0, .retAddr 0, .retAddr 0, .retAddr 0, .retAddr 0, .retAddr 0] [] (gW 143 (.inl (1, 1) :: X)) M 120 0 0 Q := by
  have hm := hR.1.1.2.2.2.1
  have hS := hR.1.1.2.2.2.2.1
  have ht := hR.1.1.2.2.2.2.2.1
  rcases hk with ⟨h0, hk0, hp⟩ | ⟨h0, hk, hp⟩
  · subst h0
    refine wp_sound [] 90 _ _ _ _ _ _ _ ?_
    refine ⟨fun _ => ?_, fun h => absurd (by decide) h⟩
    refine (a_m3 hT hR hi).use ?_
    refine c_next (fun n M1 hn f => ?_)
    have f1 := FrL.nx f
    refine ⟨by decide, ?_⟩
    refine w_packed (f1.Tr hT) hR (f1.his hH) (wCh.no (k := 1) (x := 0) (z := -5) ?_ (by decide) (by decide) ?_)
    · rw [u_pack, no_sack hT]; rfl
    refine ⟨fun _ => ?_, fun h => absurd (by decide) h⟩
    refine ⟨fun _ => ?_, fun h => absurd (by decide) h⟩
    refine refused (x := 3) (by omega) (f1.Tr hT) hR hv (f1.wid hw) (f1.his hH) hD (fun M2 a ha hE => ?_)
    refine nn_if (a := a) rfl (by omega) ?_
    exact ⟨by decide +kernel, hA.L f1 _ _ _ _ _ _ hE (by omega) (by omega)⟩
  · have w0 : ¬ Int32.ofNat S = 0 := ne_zero h0 (by omega)
    refine wp_sound [] 90 _ _ _ _ _ _ _ ?_
    refine ⟨fun h => absurd h w0, fun _ => ?_⟩
    refine (a_whyNot hT hR hk hi).use ?_
    refine (a_m3 hT hR hi).use ?_
    refine c_next (fun n M1 hn f => ?_)
    have f1 := FrL.nx f
    have hn2 := Nat.mod_lt n (show 0 < 2 by omega)
    refine ⟨by decide, ?_⟩
    rw [show (2 : Int32) = Int32.ofNat 2 from rfl, rem_sub (n := n) (k := 2) (by omega) (by omega) (by omega)]
    have hu : u_pack N S (Int32.ofNat k) (Int32.ofNat i) (Int32.ofNat (n % 2)) = if prN N k i S = 0 then (0, loadN (packN N k (Int32.ofNat i) (Int32.ofNat (n % 2))) (Int32.ofNat i) S) else (3, 0) := by
      rw [u_pack, (in_s hT hR hk).1, (in_m hT hR hi).1, (in_s hT hR hk).2, (in_m hT hR hi).2, show inB (Int32.ofNat (n % 2)) 0 1 = true from inB_on (n := 1) (by omega) hn2 rfl]; rfl
    by_cases h9 : prN N k i S = 0
    · rw [if_pos h9] at hu
      have hsd : Int32.ofNat (n % 2) = 0 ∨ Int32.ofNat (n % 2) = 1 := by
        rcases (show n % 2 = 0 ∨ n % 2 = 1 by omega) with h | h
        · rw [h]; exact Or.inl rfl
        · rw [h]; exact Or.inr rfl
      refine w_packed (f1.Tr hT) hR (f1.his hH) (wCh.yes hu (fun M2 t2 f2 => ?_))
      rw [(in_s hT hR hk).2] at t2
      have hR2 := rOk_pack hR hk hi hsd h9
      refine ⟨fun h => absurd h w0, fun _ => ?_⟩
      refine ⟨fun _ => ?_, fun h => absurd h9 h⟩
      refine (a_sack (w := 1) t2 hR2 hk (by omega)).use ?_
      rw [packN_w (by omega) (by omega) (by omega) (by omega), load_pack hR hk hi hsd h9]
      refine ⟨fun _ => ?_, fun h => absurd rfl h⟩
      refine (a_sack (w := 4) t2 hR2 hk (by omega)).use ?_
      rw [packN_4]
      refine ⟨fun _ => ?_, fun h => absurd rfl h⟩
      exact ⟨by decide +kernel, hA.L f1 _ _ _ _ _ _ (act_done (f1.Tr hT) (f1.wid hw) (f1.his hH) f2 t2 hR2 (vOk_pack hk (prN_store h9) hv hS) ⟨D, by rw [packN_at (Or.inl (by omega)) (by omega)]; exact hD, by omega⟩) (by omega) (by omega)⟩
    · rw [if_neg h9] at hu
      refine w_packed (f1.Tr hT) hR (f1.his hH) (wCh.no (z := -3) hu (by decide) (by decide) ?_)
      refine ⟨fun h => absurd h w0, fun _ => ?_⟩
      refine ⟨fun h => absurd h h9, fun _ => ?_⟩
      refine ⟨fun _ => ?_, fun h => absurd (by decide) h⟩
      refine refused (x := 4) (by omega) (f1.Tr hT) hR hv (f1.wid hw) (f1.his hH) hD (fun M2 a ha hE => ?_)
      refine nn_if (a := a) rfl (by omega) ?_
      exact ⟨by decide +kernel, hA.L f1 _ _ _ _ _ _ hE (by omega) (by omega)⟩
theorem act_2 {i k : Nat} {p : Int32} (hT : TrN M 12 N m S t) (hR : rOk N m S t) (hv : vOk N S) (hw : widOk M 40) (hH : I_his M nx c) (hD : N 6 = Int32.ofNat D) (hD9 : D ≤ 9900) (hi : i < m) (hA : AQ Q (gW 143 (.inl (1, 1) :: X)) M N m S t D) (hk : S = 0 ∧ k = 0 ∧ p = -1 ∨ 0 < S ∧ k < S ∧ p = N (63 + 8 * k + 3)) : GoP RO (d + 9) 353 [.ref 0, .ref 145, .int (Int32.ofNat m), .int (Int32.ofNat S), .int (Int32.ofNat t), .int (Int32.ofNat i), .int (Int32.ofNat k), .int p, .retAddr 0, .retAddr 0, .retAddr 0, .retAddr 0, .retAddr 0, .retAddr 0, .retAddr 0, .retAddr 0, .retAddr 0, .retAddr 0, .retAddr 0, .retAddr 0, .retAddr 0, .retAddr 0, .retAddr 0, .retAddr 0, .retAddr 0, .retAddr 0, .retAddr 0, .retAddr 0, .retAddr 0] [] (gW 143 (.inl (1, 1) :: X)) M 253 0 0 Q := by
  have hm := hR.1.1.2.2.2.1
  have hS := hR.1.1.2.2.2.2.1
  have ht := hR.1.1.2.2.2.2.2.1
  rcases hk with ⟨h0, hk0, hp⟩ | ⟨h0, hk, hp⟩
  · subst h0
    subst hp
    refine wp_sound [] 90 _ _ _ _ _ _ _ ?_
    refine w_unpacked hT hR hH (wCh.no (k := 1) (x := 0) (z := -5) ?_ (by decide) (by decide) ?_)
    · rw [u_unpack, no_sack hT]; rfl
    have f1 := FrL.refl (M := M)
    refine ⟨fun h => absurd h (by decide), fun _ => ?_⟩
    refine ⟨fun _ => ?_, fun h => absurd (by decide) h⟩
    refine refused (x := 5) (by omega) (f1.Tr hT) hR hv (f1.wid hw) (f1.his hH) hD (fun M2 a ha hE => ?_)
    refine nn_if (a := a) rfl (by omega) ?_
    exact ⟨by decide +kernel, hA.L f1 _ _ _ _ _ _ hE (by omega) (by omega)⟩
  · have hu : u_unpack N S (Int32.ofNat k) = if N (63 + 8 * k + 3) = 1 then (0, loadN (leaveN N k 0) (N (63 + 8 * k + 4)) S) else (2, 0) := by
      rw [u_unpack, (in_s hT hR hk).1, (in_s hT hR hk).2]; rfl
    subst hp
    refine wp_sound [] 90 _ _ _ _ _ _ _ ?_
    by_cases h9 : N (63 + 8 * k + 3) = 1
    · rw [if_pos h9] at hu
      refine w_unpacked hT hR hH (wCh.yes hu (fun M2 t2 f2 => ?_))
      rw [(in_s hT hR hk).2] at t2
      have hR2 := rOk_unpack hR hk
      obtain ⟨a, a1, a2⟩ := load_nat hR2 (N (63 + 8 * k + 4))
      refine ⟨fun _ => ?_, fun h => absurd h9 h⟩
      refine nn_if a1 (by omega) ?_
      refine (a_sack (w := 3) t2 hR2 hk (by omega)).use ?_
      rw [leaveN_3]
      refine ⟨fun _ => ?_, fun h => absurd rfl h⟩
      exact ⟨by decide +kernel, hA _ _ _ _ _ _ (act_done hT hw hH f2 t2 hR2 (vOk_unpack hk h9 hv hS) ⟨D, by rw [leaveN_far (Or.inl (by omega)) (by omega)]; exact hD, by omega⟩) (by omega) (by omega)⟩
    · rw [if_neg h9] at hu
      refine w_unpacked hT hR hH (wCh.no (z := -3) hu (by decide) (by decide) ?_)
      have f1 := FrL.refl (M := M)
      refine ⟨fun h => absurd h h9, fun _ => ?_⟩
      refine ⟨fun _ => ?_, fun h => absurd (by decide) h⟩
      refine refused (x := 5) (by omega) (f1.Tr hT) hR hv (f1.wid hw) (f1.his hH) hD (fun M2 a ha hE => ?_)
      refine nn_if (a := a) rfl (by omega) ?_
      exact ⟨by decide +kernel, hA.L f1 _ _ _ _ _ _ hE (by omega) (by omega)⟩
theorem act_3 {i k : Nat} {p : Int32} (hT : TrN M 12 N m S t) (hR : rOk N m S t) (hv : vOk N S) (hw : widOk M 40) (hH : I_his M nx c) (hD : N 6 = Int32.ofNat D) (hD9 : D ≤ 9900) (hi : i < m) (hA : AQ Q (gW 143 (.inl (1, 1) :: X)) M N m S t D) (hk : S = 0 ∧ k = 0 ∧ p = -1 ∨ 0 < S ∧ k < S ∧ p = N (63 + 8 * k + 3)) : GoP RO (d + 9) 353 [.ref 0, .ref 145, .int (Int32.ofNat m), .int (Int32.ofNat S), .int (Int32.ofNat t), .int (Int32.ofNat i), .int (Int32.ofNat k), .int p, .retAddr 0, .retAddr 0, .retAddr 0, .retAddr 0, .retAddr 0, .retAddr 0, .retAddr 0, .retAddr 0, .retAddr 0, .retAddr 0, .retAddr 0, .retAddr 0, .retAddr 0, .retAddr 0, .retAddr 0, .retAddr 0, .retAddr 0, .retAddr 0, .retAddr 0, .retAddr 0, .retAddr 0] [] (gW 143 (.inl (1, 1) :: X)) M 312 0 0 Q := by
  have hm := hR.1.1.2.2.2.1
  have hS := hR.1.1.2.2.2.2.1
  have ht := hR.1.1.2.2.2.2.2.1
  obtain ⟨g1, g2, g3⟩ := fill_all (N := N) (i := i) hS
  have hu : u_fill N S (Int32.ofNat i) = (0, Int32.ofNat (fillK i S 16 N)) := by
    rw [u_fill, (in_m hT hR hi).1, (in_m hT hR hi).2]; rfl
  have hle := fillK_le (i := i) (S := S) 16 N
  refine wp_sound [] 90 _ _ _ _ _ _ _ ?_
  refine (a_best hT hR hi).use ?_
  refine w_filled hT hR hH (wCh.yes hu (fun M2 t2 f2 => ?_))
  rw [(in_m hT hR hi).2] at t2
  have hR2 := rOk_fill hi 16 N hR
  have hE : actE M M2 N m S t (fillN i S 16 N) S t D := act_done hT hw hH f2 t2 hR2 (vOk_fill hS 16 N hv) ⟨D, by rw [fill_far 16 N (by omega)]; exact hD, by omega⟩
  cases hb : bestI N i S S with
  | none =>
    rw [g2 hb]
    refine ⟨fun _ => ?_, fun h => absurd (by decide) h⟩
    refine ⟨fun _ => ?_, fun h => absurd (by decide) h⟩
    refine ⟨fun _ => ?_, fun h => absurd (by decide) h⟩
    refine (a_best t2 hR2 hi).use ?_
    rw [g1]
    refine ⟨fun _ => ?_, fun h => absurd rfl h⟩
    refine ⟨fun _ => ?_, fun h => absurd (show ((-1 : Int32) < 0) by decide) h⟩
    exact ⟨by decide +kernel, hA _ _ _ _ _ _ hE (by omega) (by omega)⟩
  | some b =>
    obtain ⟨g4, g5⟩ := g3 b hb
    have hbk := (pick_lt hb).1
    refine eq_if (a := fillK i S 16 N) (b := 0) rfl rfl (by omega) (by omega) (fun h => absurd h g4) (fun _ => ?_)
    refine nn_if (a := b) rfl (by omega) ?_
    refine ⟨fun _ => ?_, fun h => absurd (by decide) h⟩
    refine (a_best t2 hR2 hi).use ?_
    rw [g1]
    refine ⟨fun _ => ?_, fun h => absurd rfl h⟩
    refine nn_if (a := b) rfl (by omega) ?_
    refine (a_sack (i := b) (w := 4) t2 hR2 hbk (by omega)).use ?_
    rw [g5]
    refine ⟨fun _ => ?_, fun h => absurd rfl h⟩
    exact ⟨by decide +kernel, hA _ _ _ _ _ _ hE (by omega) (by omega)⟩
theorem act_4 {i k : Nat} {p : Int32} (hT : TrN M 12 N m S t) (hR : rOk N m S t) (hv : vOk N S) (hw : widOk M 40) (hH : I_his M nx c) (hD : N 6 = Int32.ofNat D) (hD9 : D ≤ 9900) (hi : i < m) (hA : AQ Q (gW 143 (.inl (1, 1) :: X)) M N m S t D) (hk : S = 0 ∧ k = 0 ∧ p = -1 ∨ 0 < S ∧ k < S ∧ p = N (63 + 8 * k + 3)) : GoP RO (d + 9) 353 [.ref 0, .ref 145, .int (Int32.ofNat m), .int (Int32.ofNat S), .int (Int32.ofNat t), .int (Int32.ofNat i), .int (Int32.ofNat k), .int p, .retAddr 0, .retAddr 0, .retAddr 0, .retAddr 0, .retAddr 0, .retAddr 0, .retAddr 0, .retAddr 0, .retAddr 0, .retAddr 0, .retAddr 0, .retAddr 0, .retAddr 0, .retAddr 0, .retAddr 0, .retAddr 0, .retAddr 0, .retAddr 0, .retAddr 0, .retAddr 0, .retAddr 0] [] (gW 143 (.inl (1, 1) :: X)) M 384 0 0 Q := by
  have hm := hR.1.1.2.2.2.1
  have hS := hR.1.1.2.2.2.2.1
  have ht := hR.1.1.2.2.2.2.2.1
  rcases hk with ⟨h0, hk0, hp⟩ | ⟨h0, hk, hp⟩
  · subst h0
    subst hp
    refine wp_sound [] 90 _ _ _ _ _ _ _ ?_
    refine ⟨fun h => absurd h (by decide), fun _ => ?_⟩
    refine ⟨fun h => absurd h (by decide), fun _ => ?_⟩
    refine w_shifted hT hR hH (wCh.no (k := 1) (x := 0) (z := -5) ?_ (by decide) (by decide) ?_)
    · rw [u_shift, no_sack hT]; rfl
    have f1 := FrL.refl (M := M)
    refine ⟨fun h => absurd h (by decide), fun _ => ?_⟩
    refine ⟨fun _ => ?_, fun h => absurd (by decide) h⟩
    refine refused (x := 6) (by omega) (f1.Tr hT) hR hv (f1.wid hw) (f1.his hH) hD (fun M2 a ha hE => ?_)
    refine nn_if (a := a) rfl (by omega) ?_
    exact ⟨by decide +kernel, hA.L f1 _ _ _ _ _ _ hE (by omega) (by omega)⟩
  · have hu : u_shift N S (Int32.ofNat k) = if N (63 + 8 * k + 3) = 1 then (0, absB (wOn (shN N k) (N (63 + 8 * k + 4)) 0 S - wOn (shN N k) (N (63 + 8 * k + 4)) 1 S)) else (2, 0) := by
      rw [u_shift, (in_s hT hR hk).1, (in_s hT hR hk).2]; rfl
    subst hp
    refine wp_sound [] 120 _ _ _ _ _ _ _ ?_
    by_cases h9 : N (63 + 8 * k + 3) = 1
    · rw [if_pos h9] at hu
      obtain ⟨j, j1, j2⟩ : ∃ j, j < m ∧ N (63 + 8 * k + 4) = Int32.ofNat j := by
        rcases hR.1.2.1 k hk with ⟨_, a, _⟩ | ⟨a, _⟩
        · exact a
        · exact absurd h9 a
      rw [j2] at hu
      refine ⟨fun _ => ?_, fun h => absurd h9 h⟩
      refine (a_sack (w := 5) hT hR hk (by omega)).use ?_
      refine ⟨fun _ => ?_, fun h => absurd h9 h⟩
      refine (a_sack (w := 4) hT hR hk (by omega)).use ?_
      rw [j2]
      refine w_shifted hT hR hH (wCh.yes hu (fun M2 t2 f2 => ?_))
      rw [(in_s hT hR hk).2] at t2
      have hR2 := rOk_shift hR hk h9
      refine ⟨fun _ => ?_, fun h => absurd h9 h⟩
      refine (a_m4 t2 hR2 j1).use ?_
      refine (a_m5 t2 hR2 j1).use ?_
      refine ⟨fun _ => ?_, fun h => absurd abs_eq.symm h⟩
      refine (a_sack (w := 5) t2 hR2 hk (by omega)).use ?_
      rw [show shN N k (63 + 8 * k + 5) = 1 - N (63 + 8 * k + 5) from upd_at]
      refine ⟨fun _ => ?_, fun h => absurd rfl h⟩
      exact ⟨by decide +kernel, hA _ _ _ _ _ _ (act_done hT hw hH f2 t2 hR2 (vOk_shift hS hk hv) ⟨D, by rw [shN, upd_ne (by omega)]; exact hD, by omega⟩) (by omega) (by omega)⟩
    · rw [if_neg h9] at hu
      refine ⟨fun h => absurd h h9, fun _ => ?_⟩
      refine ⟨fun h => absurd h h9, fun _ => ?_⟩
      refine w_shifted hT hR hH (wCh.no (z := -3) hu (by decide) (by decide) ?_)
      have f1 := FrL.refl (M := M)
      refine ⟨fun h => absurd h h9, fun _ => ?_⟩
      refine ⟨fun _ => ?_, fun h => absurd (by decide) h⟩
      refine refused (x := 6) (by omega) (f1.Tr hT) hR hv (f1.wid hw) (f1.his hH) hD (fun M2 a ha hE => ?_)
      refine nn_if (a := a) rfl (by omega) ?_
      exact ⟨by decide +kernel, hA.L f1 _ _ _ _ _ _ hE (by omega) (by omega)⟩
end ACT
