/-! the start, in the words of the small machine -/
section BEG
variable {args : Array Value} {s : State} {A : Nat → Prop}
/-- a text among the constants -/
theorem str_of {own : String} {k : Nat} {l : List Nat} (hN : l.length < 2 ^ 31) (h : ∀ w ∈ strC own k l, w.before args s = true) (hA : ∀ a : Nat, a < s.heap.size → ¬ A a) : ∃ q : Nat × Nat, (Term.string own k).eval args s none [] s = some (.ref q.1) ∧ va_O "java/lang/String" q.1 A s s.heap ∧ va_OF "java/lang/String" "coder" "B" (.int 0) q.1 A s s.heap ∧ va_OF "java/lang/String" "value" "[B" (.ref q.2) q.1 A s s.heap ∧ va_T .byte q.2 l.length (fun j => .int (strF l j)) A s s.heap := by
  have hex : (Cond.exactly (.string own k) "java/lang/String").before args s = true := h _ List.mem_cons_self
  have hco : (Cond.eq (.field (.string own k) "java/lang/String" "coder" "B") (.int 0)).before args s = true := h _ (List.mem_cons_of_mem _ List.mem_cons_self)
  have har : (Cond.arrayOf (valT own k) .byte).before args s = true := h _ (List.mem_cons_of_mem _ (List.mem_cons_of_mem _ List.mem_cons_self))
  have hle : (Cond.eq (.length (valT own k)) (.int (Int32.ofNat l.length))).before args s = true := h _ (List.mem_cons_of_mem _ (List.mem_cons_of_mem _ (List.mem_cons_of_mem _ List.mem_cons_self)))
  have hel : ∀ j : Nat, j < l.length → (Cond.eq (.elem (valT own k) (.int (Int32.ofNat j))) (.int (Int32.ofNat (l.getD j 0)))).before args s = true := fun j hj => by
    have h9 := elC_mem (tm := valT own k) l 0 j hj
    rw [Nat.zero_add] at h9
    exact h _ (List.mem_cons_of_mem _ (List.mem_cons_of_mem _ (List.mem_cons_of_mem _ (List.mem_cons_of_mem _ h9))))
  obtain ⟨a, c, cA, kA, q1, q2, q3, q4, q5, q6, -⟩ := Cond.exactly_spec (args := args) (first := s) (o := none) (s := s) (idx := []) (t := .string own k) (cls := "java/lang/String") hex
  obtain ⟨t, ht, hT⟩ := va_Tof (f := fun j => .int (strF l j)) (A := A) hN har (va_eqt hle) (fun j hj => va_eqt (hel j hj)) hA
  exact ⟨(a, t), q1, ⟨cA, q3, q5, by rw [q6]; exact q2, hA a (Array.getElem?_eq_some_iff.mp q3).1⟩, vk_OFof q1 (va_eqt hco) hA, vk_OFof q1 ht hA, hT⟩
theorem row_of {tm : Term} {l : List Nat} {N : Nat} (hl : l.length = N) (hN : N < 2 ^ 31) (har : (Cond.arrayOf tm .byte).before args s = true) (hle : (Cond.eq (.length tm) (.int (Int32.ofNat N))).before args s = true) (hel : ∀ w ∈ elC tm 0 l, w.before args s = true) (hA : ∀ a : Nat, a < s.heap.size → ¬ A a) : ∃ t : Nat, tm.eval args s none [] s = some (.ref t) ∧ va_T .byte t N (fun j => .int (strF l j)) A s s.heap := by
  subst hl
  refine va_Tof (f := fun j => .int (strF l j)) (A := A) hN har (va_eqt hle) (fun j hj => va_eqt ?_) hA
  have h9 := elC_mem (tm := tm) l 0 j hj
  rw [Nat.zero_add] at h9
  exact hel _ h9
/-- such a text is what the machine reads -/
theorem ro_str {dC : Nat → ClassId} {dI : Nat → Nat → Nat} {tys : List (ClassId × FieldType)} {a t : Nat} (hK : va_K (dC, dI) vwCl tys s) (h1 : va_O "java/lang/String" a A s s.heap) (h2 : va_OF "java/lang/String" "coder" "B" (.int 0) a A s s.heap) (h3 : va_OF "java/lang/String" "value" "[B" (.ref t) a A s s.heap) : ro_ob dC dI 0 [.ref t, .int 0] a s.heap := by
  obtain ⟨cell, g1, g2, g3, g4⟩ := h1
  obtain ⟨hS, hfc, kC, hkC, hkind⟩ := hK.1 0 (RJ0, TJ0, 4) rfl
  obtain ⟨cf, k1, i1, f1, c1, e1, e2, e3, e4, e5, -⟩ := h2
  obtain ⟨cf', k2, i2, f2, c2, e1', e2', e3', e4', e5', -⟩ := h3
  cases Option.some.inj (g1.symm.trans e3)
  cases Option.some.inj (g1.symm.trans e3')
  have hc : cell.cls = dC 0 := Option.some.inj (g3.symm.trans hfc)
  refine ⟨(RJ0, TJ0, 4), cell, rfl, g1, hc, ⟨e4, g2⟩, fun k v hv => ?_⟩
  match k, hv with
  | 0, hv =>
    cases hv
    obtain ⟨cf9, kf9, fi9, f9, hi, hsl⟩ := hS 0 (by decide)
    have h9 := Option.some.inj (e1'.symm.trans hi)
    have hf : f2 = f9 := by
      have := congrArg (fun x => x.2.2.2) h9
      exact this
    have hsl : f9.slot = dI 0 0 := hsl
    rw [← hsl, ← hf]
    exact e5'
  | 1, hv =>
    cases hv
    obtain ⟨cf9, kf9, fi9, f9, hi, hsl⟩ := hS 1 (by decide)
    have h9 := Option.some.inj (e1.symm.trans hi)
    have hf : f1 = f9 := by
      have := congrArg (fun x => x.2.2.2) h9
      exact this
    have hsl : f9.slot = dI 0 1 := hsl
    rw [← hsl, ← hf]
    exact e5
  | j + 2, hv => cases hv
theorem arr_of {ty : FieldType} (hC : ∀ C, ty ≠ .object C) (h : (Cond.arrayClass ty).before args s = true) : ∃ cA, ArrOfT s cA ty ∧ va_RA s cA ty := by
  obtain ⟨cA, kA, comp, h1, h2, h3⟩ := Cond.arrayClass_spec h
  refine ⟨cA, fun N z => ⟨(fun k h => by cases h), kA, h2, comp, h3⟩, ?_⟩
  cases ty with
  | object C => exact absurd rfl (hC C)
  | _ => exact h1
theorem arrO_of {C : String} (h : (Cond.arrayOver (.object C)).before args s = true) : ∃ cA, ArrOfT s cA (.object C) ∧ va_RA s cA (.object C) := by
  obtain ⟨comp, c, k, h1, h2, h3, h4, h5⟩ := Cond.arrayOver_spec h
  exact ⟨c, fun N z => ⟨(fun k h => by cases h), k, h3, comp, h4⟩, k, comp, h3, h4, h1, h5⟩
/-- the classes -/
theorem beg_K (hts : ∀ w ∈ lw_tbl, w.before args s = true) : ∃ (dC : Nat → ClassId) (dI : Nat → Nat → Nat) (dA : Nat → ClassId), va_K (dC, dI) vwCl (tyL dA) s := by
  have hwd : ∀ (n : Nat) (w : Cond), wat n = some w → gw w = true → w.before args s = true := fun n w h _ => hts w (wat_mem h)
  have hcl : ∀ (ci : Nat) (C : String) (T : u_T) (N n m : Nat), vwCl[ci]? = some (C, T, N) → uok ci = true → wat n = some (.instantiable C m) → ∃ (cC : ClassId) (iS : Nat → Nat), u_Kn s C T N cC iS := fun ci C T N n m hc hu hw => u_known (uok_at hu hc hwd) (fun _ h => h) (hts _ (wat_mem hw))
  have hall : ∀ ci : Nat, ∃ q : ClassId × (Nat → Nat), ∀ r : vw_C, vwCl[ci]? = some r → u_Kn s r.1 r.2.1 r.2.2 q.1 q.2 := by
    intro ci
    have mk : ∀ (C : String) (T : u_T) (N n m : Nat), vwCl[ci]? = some (C, T, N) → uok ci = true → wat n = some (.instantiable C m) → ∃ q : ClassId × (Nat → Nat), ∀ r : vw_C, vwCl[ci]? = some r → u_Kn s r.1 r.2.1 r.2.2 q.1 q.2 := by
      intro C T N n m hc hu hw
      obtain ⟨cC, iS, h⟩ := hcl ci C T N n m hc hu hw
      refine ⟨(cC, iS), fun r hr => ?_⟩
      cases Option.some.inj (hr.symm.trans hc)
      exact h
    match ci, mk with
    | 0, mk => exact mk RJ0 TJ0 4 5042 4 rfl (uok_all 0 (by decide)) rfl
    | 1, mk => exact mk RJ4 TJ4 4 3002 4 rfl (uok_all 1 (by decide)) rfl
    | 2, mk => exact mk RX0 TX0 3 2223 3 rfl (uok_all 2 (by decide)) rfl
    | 3, mk => exact mk RX1 TX1 11 1033 11 rfl (uok_all 3 (by decide)) rfl
    | 4, mk => exact mk RX2 TX2 3 1045 3 rfl (uok_all 4 (by decide)) rfl
    | 5, mk => exact mk RX3 TX3 7 1039 7 rfl (uok_all 5 (by decide)) rfl
    | 6, mk => exact mk RX4 TX4 8 1025 8 rfl (uok_all 6 (by decide)) rfl
    | j + 7, mk => exact ⟨(default, fun _ => 0), fun r hr => by cases hr⟩
  obtain ⟨D, hD⟩ := Classical.axiomOfChoice hall
  obtain ⟨a0, h0⟩ := arr_of (args := args) (ty := .byte) (fun C h => by cases h) (hts _ (wat_mem (n := 1063) rfl))
  obtain ⟨a1, h1⟩ := arr_of (args := args) (ty := .int) (fun C h => by cases h) (hts _ (wat_mem (n := 1064) rfl))
  obtain ⟨a2, h2⟩ := arr_of (args := args) (ty := .boolean) (fun C h => by cases h) (hts _ (wat_mem (n := 3031) rfl))
  obtain ⟨a3, h3⟩ := arrO_of (args := args) (C := "MuleTrain$Train") (hts _ (wat_mem (n := 2221) rfl))
  refine ⟨fun ci => (D ci).1, fun ci => (D ci).2, fun t => match t with
    | 0 => a0
    | 1 => a1
    | 2 => a2
    | _ => a3, fun ci r hr => hD ci r hr, fun k q hq => ?_⟩
  match k, hq with
  | 0, hq => cases hq; exact h0
  | 1, hq => cases hq; exact h1
  | 2, hq => cases hq; exact h2
  | 3, hq => cases hq; exact h3
  | j + 4, hq => cases hq
theorem nest_none {w : Cond} {U : State} (g : nestWord w = true) (hb : w.before args U = true) : w.before #[] U = true := by
  cases w with
  | castable a b => exact va_tabs rfl rfl hb
  | declares a => exact va_tabs rfl rfl hb
  | fieldLinkNest a b c d e f => exact va_tabs rfl rfl hb
  | methodLinkNest a b c d => exact va_tabs rfl rfl hb
  | arrayOver ty => exact hb
  | _ => cases g
def adRof (K V : Nat → Nat) (d1 d2 b : Nat) (n : Nat) : Nat := bif Nat.beq n 106 then d1 else bif Nat.beq n 107 then d2 else bif Nat.beq n 108 then b else bif Nat.beq (n % 2) 0 then K (n / 2) else V (n / 2)
theorem adRof_K {K V : Nat → Nat} {d1 d2 b i : Nat} (h : i < 53) : adRof K V d1 d2 b (2 * i) = K i := by
  unfold adRof
  rw [nbf (show 2 * i ≠ 106 by omega), nbf (show 2 * i ≠ 107 by omega), nbf (show 2 * i ≠ 108 by omega), show 2 * i % 2 = 0 by omega, show 2 * i / 2 = i by omega]
  rfl
theorem adRof_V {K V : Nat → Nat} {d1 d2 b i : Nat} (h : i < 53) : adRof K V d1 d2 b (2 * i + 1) = V i := by
  unfold adRof
  rw [nbf (show 2 * i + 1 ≠ 106 by omega), nbf (show 2 * i + 1 ≠ 107 by omega), nbf (show 2 * i + 1 ≠ 108 by omega), show (2 * i + 1) % 2 = 1 by omega, show (2 * i + 1) / 2 = i by omega]
  rfl
theorem strD_small : ∀ q ∈ strD, q.2.2.length < 2 ^ 31 := by decide +kernel
theorem mstr_at {i : Nat} {q : String × Nat × String} (h : mstrs[i]? = some q) : ∃ l, strD[i]? = some (q.1, q.2.1, l) := by
  have h1 : (mstrs.map (fun q => (q.1, q.2.1)))[i]? = some (q.1, q.2.1) := by rw [List.getElem?_map, h]; rfl
  rw [mstr_D, List.getElem?_map] at h1
  cases hs : strD[i]? with
  | none => rw [hs] at h1; cases h1
  | some r =>
    rw [hs] at h1
    obtain ⟨r1, r2, r3⟩ := r
    have h2 := Option.some.inj h1
    obtain ⟨e1, e2⟩ := Prod.mk.inj h2
    have e1 : r1 = q.1 := e1
    have e2 : r2 = q.2.1 := e2
    subst e1 e2
    exact ⟨r3, rfl⟩
/-- what is only read, and what stands besides -/
theorem beg_RO (hs : Nat → Int32) {b len : Nat} {f : Nat → Int32} {dC : Nat → ClassId} {dI : Nat → Nat → Nat} {dA : Nat → ClassId} (hts : ∀ w ∈ lw_tbl, w.before args s = true) (hnar : narrow_1.before args s = true) (hX : va_X b len f s s.heap) (hbl : b < s.heap.size) (hK : va_K (dC, dI) vwCl (tyL dA) s) (hA : ∀ a : Nat, a < s.heap.size → ¬ A a) :
    ∃ adR : Nat → Nat, adR 108 = b ∧ (∀ (ad : Nat → Nat) (j : Nat) (e : mE), (RO9 hs len f)[j]? = some e → ro_at dC dI (mz adR ad) (adR j) e A s s.heap) ∧ (∀ j, j < (RO9 hs len f).length → adR j < s.heap.size ∧ ¬ A (adR j)) ∧ mEx adR A s := by
  have hn : ∀ w ∈ narF, w.before args s = true := flat_of_before _ hnar
  have hat : ∀ (i : Nat) (w : Cond), narF[i]? = some w → w.before args s = true := fun i w h => hn w (List.mem_of_getElem? h)
  have hsub : ∀ (i m : Nat) (l : List Cond), (narF.drop i).take m = l → ∀ w ∈ l, w.before args s = true := fun i m l h w hw => by
    subst h
    exact hn w (List.mem_of_mem_drop (List.mem_of_mem_take hw))
  have hstr : ∀ (i : Nat) (q : String × Nat × List Nat), strD[i]? = some q → ∀ w ∈ strC q.1 q.2.1 q.2.2, w.before args s = true := by
    intro i q hq
    have hi : i < 53 := by
      have := (List.getElem?_eq_some_iff.mp hq).1
      exact this
    have ho : ∃ n, strOf[i]? = some n := ⟨_, List.getElem?_eq_getElem (show i < strOf.length from hi)⟩
    obtain ⟨n, ho⟩ := ho
    exact hsub _ _ _ (nar_all (q, n) (List.mem_of_getElem? (i := i) (by rw [List.getElem?_zip_eq_some]; exact ⟨hq, ho⟩)))
  have hch : ∀ i : Nat, ∃ q : Nat × Nat, ∀ r : String × Nat × List Nat, strD[i]? = some r → (Term.string r.1 r.2.1).eval args s none [] s = some (.ref q.1) ∧ va_O "java/lang/String" q.1 A s s.heap ∧ va_OF "java/lang/String" "coder" "B" (.int 0) q.1 A s s.heap ∧ va_OF "java/lang/String" "value" "[B" (.ref q.2) q.1 A s s.heap ∧ va_T .byte q.2 r.2.2.length (fun j => .int (strF r.2.2 j)) A s s.heap := by
    intro i
    cases hi : strD[i]? with
    | none => exact ⟨(0, 0), fun r h => by cases h⟩
    | some r =>
      obtain ⟨q, hq⟩ := str_of (own := r.1) (k := r.2.1) (strD_small r (List.mem_of_getElem? hi)) (hstr i r hi) hA
      exact ⟨q, fun r' h => by cases h; exact hq⟩
  obtain ⟨KV, hKV⟩ := Classical.axiomOfChoice hch
  obtain ⟨d1, e1, t1⟩ := row_of (tm := .static "java/lang/Integer" "DigitOnes" "[B") (l := onesL) (N := 100) (A := A) rfl (by decide) (hat _ _ nar_Ones.1) (hat _ _ nar_Ones.2.1) (hsub _ _ _ nar_Ones.2.2) hA
  obtain ⟨d2, e2, t2⟩ := row_of (tm := .static "java/lang/Integer" "DigitTens" "[B") (l := tensL) (N := 100) (A := A) rfl (by decide) (hat _ _ nar_Tens.1) (hat _ _ nar_Tens.2.1) (hsub _ _ _ nar_Tens.2.2) hA
  have lt : ∀ {ty : FieldType} {t N : Nat} {g : Nat → Value}, va_T ty t N g A s s.heap → t < s.heap.size := fun h => by
    obtain ⟨cell, h1, -⟩ := h
    exact (Array.getElem?_eq_some_iff.mp h1).1
  have dec : ∀ j, j < 109 → (∃ i r, i < 53 ∧ strD[i]? = some r ∧ (j = 2 * i ∨ j = 2 * i + 1)) ∨ j = 106 ∨ j = 107 ∨ j = 108 := by
    intro j hj
    by_cases h6 : j < 106
    · have hi : j / 2 < strD.length := by rw [strD_len]; omega
      exact Or.inl ⟨j / 2, strD[j / 2], by omega, List.getElem?_eq_getElem hi, by omega⟩
    · omega
  refine ⟨adRof (fun i => (KV i).1) (fun i => (KV i).2) d1 d2 b, rfl, fun ad j e he => ?_, fun j hj => ?_, ?_⟩
  · have hj : j < 109 := (List.getElem?_eq_some_iff.mp he).1
    rcases dec j hj with ⟨i, r, hi, hr, rfl | rfl⟩ | rfl | rfl | rfl
    · obtain ⟨g1, g2⟩ := RO9_str hs len f i r hr
      cases Option.some.inj (g1.symm.trans he)
      obtain ⟨k1, k2, k3, k4, k5⟩ := hKV i r hr
      rw [adRof_K hi]
      have hz : mz (adRof (fun i => (KV i).1) (fun i => (KV i).2) d1 d2 b) ad (1000001 + 2 * i) = (KV i).2 := by
        unfold mz
        rw [show Nat.blt (1000001 + 2 * i) 1000000 = false by
          cases hb9 : Nat.blt (1000001 + 2 * i) 1000000 with
          | false => rfl
          | true => exact absurd (Nat.le_of_ble_eq_true hb9) (by omega), cond_false, show 1000001 + 2 * i - 1000000 = 2 * i + 1 by omega]
        exact adRof_V hi
      show ro_ob dC dI 0 [.ref (mz (adRof (fun i => (KV i).1) (fun i => (KV i).2) d1 d2 b) ad (1000001 + 2 * i)), .int 0] (KV i).1 s.heap
      rw [hz]
      exact ro_str hK k2 k3 k4
    · obtain ⟨g1, g2⟩ := RO9_str hs len f i r hr
      cases Option.some.inj (g2.symm.trans he)
      obtain ⟨k1, k2, k3, k4, k5⟩ := hKV i r hr
      rw [adRof_V hi]
      exact Or.inl ⟨rfl, k5⟩
    · cases Option.some.inj ((RO9_dig hs len f).1.symm.trans he)
      exact Or.inl ⟨rfl, t1⟩
    · cases Option.some.inj ((RO9_dig hs len f).2.1.symm.trans he)
      exact Or.inl ⟨rfl, t2⟩
    · cases Option.some.inj ((RO9_dig hs len f).2.2.symm.trans he)
      exact Or.inr ⟨rfl, hX⟩
  · have h9 : adRof (fun i => (KV i).1) (fun i => (KV i).2) d1 d2 b j < s.heap.size := by
      rcases dec j hj with ⟨i, r, hi, hr, rfl | rfl⟩ | rfl | rfl | rfl
      · rw [adRof_K hi]
        obtain ⟨cell, h1, -⟩ := (hKV i r hr).2.1
        exact (Array.getElem?_eq_some_iff.mp h1).1
      · rw [adRof_V hi]
        exact lt (hKV i r hr).2.2.2.2
      · exact lt t1
      · exact lt t2
      · exact hbl
    exact ⟨h9, hA _ h9⟩
  · refine ⟨vx_Zqof (hts _ (wat_mem (n := 3092) rfl)) (hts _ (wat_mem (n := 1018) rfl)) (hat _ _ nar_st.2.2.1) hA, vx_Zqof (hts _ (wat_mem (n := 3094) rfl)) (hts _ (wat_mem (n := 1018) rfl)) (hat _ _ nar_st.2.2.2) hA, fun i q hq => ?_, fun w hw => ?_, fun x y hx hy hxy => va_Nc.of (hn _ (nar_cast x y hx hy hxy)), va_Zof (hts _ (wat_mem (n := 1150) rfl)) (hts _ (wat_mem (n := 1005) rfl)) (va_eqt (hat _ _ nar_st.1)) hA, va_Zref (hts _ (wat_mem (n := 5003) rfl)) (hts _ (wat_mem (n := 1011) rfl)) e1 hA, va_Zref (hts _ (wat_mem (n := 5005) rfl)) (hts _ (wat_mem (n := 1011) rfl)) e2 hA, va_Zqof (hts _ (wat_mem (n := 1166) rfl)) (hts _ (wat_mem (n := 1007) rfl)) (hat _ _ nar_st.2.1) hA, nest_none rfl (hts _ (wat_mem (n := 4172) rfl))⟩
    · obtain ⟨l, hl⟩ := mstr_at hq
      have hi : i < 53 := (List.getElem?_eq_some_iff.mp hl).1
      rw [adRof_K hi]
      exact vk_R.of (hts _ (mstr_w q (List.mem_of_getElem? hq))) (hKV i _ hl).1
    · obtain ⟨w1, w2⟩ := List.mem_filter.mp hw
      exact nest_none w2 (hts w w1)
end BEG
