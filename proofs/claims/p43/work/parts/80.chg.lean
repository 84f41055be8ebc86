/-! the row stays in order -/
def ldK (N : Nat → Int32) (mm : Int32) : Nat → Nat
  | 0 => 0
  | n + 1 => ldK N mm n + (bif isOnB N mm n then (N (63 + 8 * n + 1)).toNatClampNeg else 0)
theorem load_ld {N : Nat → Int32} {mm : Int32} {m S : Nat} (hO : sacksOk N m S) (hW : weightOk N S) : ∀ n, n ≤ S → loadN N mm n = Int32.ofNat (ldK N mm n) ∧ ldK N mm n ≤ 99 * n := by
  intro n
  induction n with
  | zero => intro _; exact ⟨Int32.add_zero 0, Nat.le_refl _⟩
  | succ n ih =>
    intro hn
    obtain ⟨h1, h2⟩ := ih (by omega)
    obtain ⟨w, w1, w2, w3⟩ := hW n (by omega)
    rw [load_sm hO n (by omega)] at h1
    rw [load_sm hO (n + 1) hn, sm, h1, ldK]
    cases isOnB N mm n with
    | false => exact ⟨Int32.add_zero _, by rw [cond_false]; omega⟩
    | true =>
      rw [cond_true, cond_true, w1, clamp_nn (by omega), i_add]
      exact ⟨rfl, by omega⟩
theorem loadsOk_of {N : Nat → Int32} {m S : Nat} (hS : S ≤ 16) (hO : sacksOk N m S) (hW : weightOk N S) (h : ∀ i, i < m → ∃ c, bearN N i = Int32.ofNat c ∧ ldK N (Int32.ofNat i) S ≤ c ∧ c ≤ 300) : loadsOk N m S := fun i hi => by
  obtain ⟨c, h1, h2, h3⟩ := h i hi
  exact ⟨_, c, (load_ld hO hW S (Nat.le_refl _)).1, h1, h2, h3⟩
theorem loadsOk_to {N : Nat → Int32} {m S : Nat} (hS : S ≤ 16) (hO : sacksOk N m S) (hW : weightOk N S) (h : loadsOk N m S) : ∀ i, i < m → ∃ c, bearN N i = Int32.ofNat c ∧ ldK N (Int32.ofNat i) S ≤ c ∧ c ≤ 300 := fun i hi => by
  obtain ⟨a, c, h1, h2, h3, h4⟩ := h i hi
  obtain ⟨h5, h6⟩ := load_ld (mm := Int32.ofNat i) hO hW S (Nat.le_refl _)
  have h7 := i_inj (a := ldK N (Int32.ofNat i) S) (b := a) (by omega) (by omega) (h5.symm.trans h1)
  exact ⟨c, h2, by omega, h4⟩
theorem ldK_mono {N N' : Nat → Int32} {mm : Int32} : ∀ n, (∀ k, k < n → isOnB N' mm k = true → isOnB N mm k = true ∧ N' (63 + 8 * k + 1) = N (63 + 8 * k + 1)) → ldK N' mm n ≤ ldK N mm n := by
  intro n
  induction n with
  | zero => intro _; exact Nat.le_refl _
  | succ n ih =>
    intro h
    have h1 := ih (fun k hk => h k (by omega))
    rw [ldK, ldK]
    cases hb : isOnB N' mm n with
    | false => rw [cond_false]; omega
    | true =>
      obtain ⟨h2, h3⟩ := h n (by omega) hb
      rw [h2, h3, cond_true]
      omega
theorem ldK_zero {N : Nat → Int32} {mm : Int32} : ∀ n, (∀ k, k < n → isOnB N mm k = false) → ldK N mm n = 0 := by
  intro n
  induction n with
  | zero => intro _; rfl
  | succ n ih =>
    intro h
    rw [ldK, ih (fun k hk => h k (by omega)), h n (by omega)]; rfl
theorem ldK_add {N N' : Nat → Int32} {mm : Int32} {k w : Nat} : ∀ n, k < n → (∀ x, x < n → x ≠ k → isOnB N' mm x = isOnB N mm x ∧ N' (63 + 8 * x + 1) = N (63 + 8 * x + 1)) → isOnB N mm k = false → (bif isOnB N' mm k then (N' (63 + 8 * k + 1)).toNatClampNeg else 0) = w → ldK N' mm n = ldK N mm n + w := by
  intro n
  induction n with
  | zero => intro h; omega
  | succ n ih =>
    intro hk h h0 hw
    rw [ldK, ldK]
    by_cases e : k = n
    · subst e
      rw [h0, hw]
      have h1 : ldK N' mm k = ldK N mm k := by
        refine Nat.le_antisymm (ldK_mono k (fun x hx hb => ?_)) (ldK_mono k (fun x hx hb => ?_))
        · obtain ⟨a, b⟩ := h x (by omega) (by omega)
          exact ⟨by rw [← a]; exact hb, b⟩
        · obtain ⟨a, b⟩ := h x (by omega) (by omega)
          exact ⟨by rw [a]; exact hb, b.symm⟩
      rw [h1]; rfl
    · obtain ⟨a, b⟩ := h n (by omega) (by omega)
      rw [ih (by omega) (fun x hx hn => h x (by omega) hn) h0 hw, a, b]
      omega
theorem placesOk_congr {N N' : Nat → Int32} {S : Nat} (h : ∀ i, i < S → N' (63 + 8 * i + 3) = N (63 + 8 * i + 3) ∧ N' (63 + 8 * i + 6) = N (63 + 8 * i + 6)) (hP : placesOk N S) : placesOk N' S := fun i hi => by
  rw [(h i hi).1, (h i hi).2]
  exact hP i hi
theorem bearN_congr {N N' : Nat → Int32} {i : Nat} (h1 : N' (15 + 8 * i) = N (15 + 8 * i)) (h2 : N' (15 + 8 * i + 1) = N (15 + 8 * i + 1)) : bearN N' i = bearN N i := by
  rw [bearN, bearN, h1, h2]
theorem lettersOk_congr {N N' : Nat → Int32} {i : Nat} (h : ∀ n, n < 6 → N' (15 + 8 * i + 2 + n) = N (15 + 8 * i + 2 + n)) (hl : lettersOk N i) : lettersOk N' i := by
  obtain ⟨L, a, b, c, d⟩ := hl
  refine ⟨L, a, b, fun n hn => ?_, fun n h1 h2 => ?_⟩
  · rw [h n (by omega)]; exact c n hn
  · rw [h n h2]; exact d n h1 h2
theorem stageOk_congr {N N' : Nat → Int32} {i : Nat} (h1 : N' (191 + 2 * i) = N (191 + 2 * i)) (h2 : N' (191 + 2 * i + 1) = N (191 + 2 * i + 1)) (h : stageOk N i) : stageOk N' i := by
  unfold stageOk
  rw [h1, h2]
  exact h
/-- the sacks changed alone, and the counts, and money -/
theorem rOk_sacks {N N' : Nat → Int32} {m S t : Nat} (h : rOk N m S t) (hlow : ∀ j, j < 7 ∨ 14 < j ∧ j < 63 ∨ 190 < j → N' j = N j) (hO : sacksOk N' m S) (hW : weightOk N' S) (hP : placesOk N' S) (hL : ∀ i, i < m → ldK N' (Int32.ofNat i) S ≤ ldK N (Int32.ofNat i) S ∨ ∃ c, bearN N i = Int32.ofNat c ∧ ldK N' (Int32.ofNat i) S ≤ c ∧ c ≤ 300) : rOk N' m S t := by
  obtain ⟨⟨⟨r1, r2, r3, r4, r5, r6, r7, r8⟩, i2, i3, e, e1, e2⟩, h2, h3, ⟨D, d1, d2⟩, h5⟩ := h
  refine ⟨⟨⟨by rw [hlow 3 (by omega)]; exact r1, by rw [hlow 4 (by omega)]; exact r2, by rw [hlow 5 (by omega)]; exact r3, r4, r5, r6, fun i hi => muleOk_congr (hlow _ (by omega)) (hlow _ (by omega)) (r7 i hi), fun i hi => stageOk_congr (hlow _ (by omega)) (hlow _ (by omega)) (r8 i hi)⟩, hO, hW, e, by rw [hlow 1 (by omega)]; exact e1, e2⟩, hP, loadsOk_of r5 hO hW (fun i hi => ?_), ⟨D, by rw [hlow 6 (by omega)]; exact d1, d2⟩, fun i hi => lettersOk_congr (fun n hn => hlow _ (by omega)) (h5 i hi)⟩
  obtain ⟨c, c1, c2, c3⟩ := loadsOk_to r5 i2 i3 h3 i hi
  rw [bearN_congr (N := N) (hlow _ (by omega)) (hlow _ (by omega))]
  rcases hL i hi with h9 | h9
  · exact ⟨c, c1, by omega, c3⟩
  · exact h9
theorem pack_on {N : Nat → Int32} {k x : Nat} {mm sd m2 : Int32} (hx : x ≠ k) : isOnB (packN N k mm sd) m2 x = isOnB N m2 x := isOnB_congr (by rw [packN, upd_ne (by omega), upd_ne (by omega), upd_ne (by omega)]) (by rw [packN, upd_ne (by omega), upd_ne (by omega), upd_ne (by omega)])
theorem packN_w {N : Nat → Int32} {k x c : Nat} {mm sd : Int32} (hc : c < 8) (h3 : c ≠ 3) (h4 : c ≠ 4) (h5 : c ≠ 5) : packN N k mm sd (63 + 8 * x + c) = N (63 + 8 * x + c) := by
  rw [packN, upd_ne (by omega), upd_ne (by omega), upd_ne (by omega)]
theorem packN_3 {N : Nat → Int32} {k : Nat} {mm sd : Int32} : packN N k mm sd (63 + 8 * k + 3) = 1 := by rw [packN, upd_ne (by omega), upd_ne (by omega), upd_at]
theorem packN_4 {N : Nat → Int32} {k : Nat} {mm sd : Int32} : packN N k mm sd (63 + 8 * k + 4) = mm := by rw [packN, upd_ne (by omega), upd_at]
theorem packN_5 {N : Nat → Int32} {k : Nat} {mm sd : Int32} : packN N k mm sd (63 + 8 * k + 5) = sd := by rw [packN, upd_at]
theorem rOk_pack {N : Nat → Int32} {m S t k i : Nat} {sd : Int32} (h : rOk N m S t) (hk : k < S) (hi : i < m) (hs : sd = 0 ∨ sd = 1) (hp : prN N k i S = 0) : rOk (packN N k (Int32.ofNat i) sd) m S t := by
  have hO := h.1.2.1
  have hW := h.1.2.2.1
  have hS := h.1.1.2.2.2.2.1
  have hm := h.1.1.2.2.2.1
  have h0 := prN_store hp
  have hoff : ∀ mm, isOnB N mm k = false := fun mm => by rw [isOnB, h0]; rfl
  obtain ⟨c, c1, c2, c3⟩ := loadsOk_to hS hO hW h.2.2.1 i hi
  obtain ⟨w, w1, w2, w3⟩ := hW k hk
  obtain ⟨l1, l2⟩ := load_ld (mm := Int32.ofNat i) hO hW S (Nat.le_refl _)
  have hfit : ldK N (Int32.ofNat i) S + w ≤ c := by
    rw [prN, h0, show decide ((0 : Int32) = 0) = true from rfl, cond_true, c1, l1, w1, i_add] at hp
    by_cases h9 : Int32.ofNat c < Int32.ofNat (ldK N (Int32.ofNat i) S + w)
    · rw [decide_eq_true h9] at hp
      exact absurd (show (2 : Int32) = 0 from hp) (by decide)
    · rw [i_lt (by omega) (by omega)] at h9
      omega
  refine rOk_sacks h (fun j hj => packN_at (by omega) (by omega)) (fun x hx => sackOk_pack hi hs (hO x hx)) (weightOk_pack hW) (fun x hx => ?_) (fun j hj => ?_)
  · by_cases e : x = k
    · subst e
      obtain ⟨p, p1, p2, p3⟩ := h.2.1 x hx
      refine ⟨1, by omega, packN_3, fun _ => ?_⟩
      rw [packN_w (by omega) (by omega) (by omega) (by omega)]
      refine p3 ?_
      have := i_inj (by omega) (by omega) (p2.symm.trans (h0.trans (show (0 : Int32) = Int32.ofNat 0 from rfl)))
      omega
    · rw [show packN N k (Int32.ofNat i) sd (63 + 8 * x + 3) = N (63 + 8 * x + 3) by rw [packN, upd_ne (by omega), upd_ne (by omega), upd_ne (by omega)], packN_w (by omega) (by omega) (by omega) (by omega)]
      exact h.2.1 x hx
  · by_cases e : j = i
    · subst e
      refine Or.inr ⟨c, c1, ?_, c3⟩
      rw [ldK_add (w := w) S hk (fun x _ hx => ⟨pack_on hx, packN_w (by omega) (by omega) (by omega) (by omega)⟩) (hoff _) (by
        rw [isOnB, packN_3, packN_4, packN_w (by omega) (by omega) (by omega) (by omega), w1, clamp_nn (by omega), decide_eq_true rfl, decide_eq_true rfl]; rfl)]
      exact hfit
    · refine Or.inl (Nat.le_of_eq ?_)
      rw [ldK_add (w := 0) S hk (fun x _ hx => ⟨pack_on hx, packN_w (by omega) (by omega) (by omega) (by omega)⟩) (hoff _) (by
        rw [isOnB, packN_4, decide_eq_false (p := Int32.ofNat i = Int32.ofNat j) (fun h => e (i_inj (by omega) (by omega) h).symm), Bool.and_false]; rfl)]
      rfl
theorem rOk_fill {i m S t : Nat} (hi : i < m) : ∀ (n : Nat) (N : Nat → Int32), rOk N m S t → rOk (fillN i S n N) m S t := by
  intro n
  induction n with
  | zero => intro N h; exact h
  | succ n ih =>
    intro N h
    rw [fillN_s]
    cases hb : bestI N i S S with
    | none => exact h
    | some k =>
      have h9 := pick_lt hb
      refine ih _ ?_
      rw [fill1, hb]
      exact rOk_pack h h9.1 hi lightN_01 (of_decide_eq_true h9.2)
theorem leave_on {N : Nat → Int32} {k : Nat} {mm p : Int32} (hp : p ≠ 1) {x : Nat} (h : isOnB (leaveN N k p) mm x = true) : isOnB N mm x = true := by
  rw [leave_off hp, Bool.and_eq_true] at h
  exact h.1
theorem leaveN_w {N : Nat → Int32} {k x c : Nat} {p : Int32} (hc : c < 8) (h3 : c ≠ 3) (h4 : c ≠ 4) (h5 : c ≠ 5) (h6 : c ≠ 6) : leaveN N k p (63 + 8 * x + c) = N (63 + 8 * x + c) := leaveN_at (by omega) (by omega) (by omega) (by omega)
theorem leaveN_5z {N : Nat → Int32} {k : Nat} {p : Int32} : leaveN N k p (63 + 8 * k + 5) = -1 := by rw [leaveN, upd_ne (by omega), upd_at]
theorem leaveN_6 {N : Nat → Int32} {k : Nat} {p : Int32} : leaveN N k p (63 + 8 * k + 6) = bif decide (p = 0) then -1 else N 6 := by rw [leaveN, upd_at]
theorem sackOk_leavez {N : Nat → Int32} {m k x : Nat} {p : Int32} (hp : p ≠ 1) (h : sackOk N m x) : sackOk (leaveN N k p) m x := by
  by_cases e : x = k
  · subst e
    exact Or.inr ⟨by rw [leaveN_3]; exact hp, leaveN_4, leaveN_5z⟩
  · exact sackOk_congr (leaveN_at (by omega) (by omega) (by omega) (by omega)) (leaveN_at (by omega) (by omega) (by omega) (by omega)) (leaveN_at (by omega) (by omega) (by omega) (by omega)) h
theorem placesOk_leave {N : Nat → Int32} {S k p : Nat} (hp : p < 4) (hp1 : p = 0 ∨ 1 < p) (h : placesOk N S) : placesOk (leaveN N k (Int32.ofNat p)) S := fun x hx => by
  by_cases e : x = k
  · subst e
    refine ⟨p, hp, leaveN_3, fun h1 => ?_⟩
    rw [leaveN_6, show p = 0 by omega]; rfl
  · rw [leaveN_at (by omega) (by omega) (by omega) (by omega), leaveN_at (by omega) (by omega) (by omega) (by omega)]
    exact h x hx
theorem rOk_unpack {N : Nat → Int32} {m S t k : Nat} (h : rOk N m S t) (hk : k < S) : rOk (leaveN N k 0) m S t := by
  have hS := h.1.1.2.2.2.2.1
  exact rOk_sacks h (fun j hj => leaveN_far (by omega) (by omega)) (fun x hx => sackOk_leavez (by decide) (h.1.2.1 x hx)) (weightOk_congr (fun i _ => leaveN_w (by omega) (by omega) (by omega) (by omega) (by omega)) h.1.2.2.1) (placesOk_leave (p := 0) (by omega) (Or.inl rfl) h.2.1) (fun i _ => Or.inl (ldK_mono S (fun x _ hx => ⟨leave_on (by decide) hx, leaveN_w (by omega) (by omega) (by omega) (by omega) (by omega)⟩)))
def shN (N : Nat → Int32) (k : Nat) : Nat → Int32 := upd N (63 + 8 * k + 5) (1 - N (63 + 8 * k + 5))
theorem rOk_shift {N : Nat → Int32} {m S t k : Nat} (h : rOk N m S t) (hk : k < S) (h1 : N (63 + 8 * k + 3) = 1) : rOk (shN N k) m S t := by
  have hS := h.1.1.2.2.2.2.1
  have ne : ∀ j, j ≠ 63 + 8 * k + 5 → shN N k j = N j := fun j hj => upd_ne hj
  refine rOk_sacks h (fun j hj => ne j (by omega)) (fun x hx => ?_) (weightOk_congr (fun i _ => ne _ (by omega)) h.1.2.2.1) (placesOk_congr (fun i _ => ⟨ne _ (by omega), ne _ (by omega)⟩) h.2.1) (fun i _ => Or.inl (ldK_mono S (fun x _ hx => ⟨by rw [← isOnB_congr (N := N) (ne _ (by omega)) (ne _ (by omega))]; exact hx, ne _ (by omega)⟩)))
  by_cases e : x = k
  · subst e
    rcases h.1.2.1 x hx with ⟨a, b, c⟩ | ⟨a, b, c⟩
    · refine Or.inl ⟨by rw [ne _ (by omega)]; exact a, by rw [ne _ (by omega)]; exact b, ?_⟩
      rw [shN, upd_at]
      rcases c with c | c
      · rw [c]; exact Or.inr (by decide)
      · rw [c]; exact Or.inl (by decide)
    · exact absurd h1 a
  · exact sackOk_congr (ne _ (by omega)) (ne _ (by omega)) (ne _ (by omega)) (h.1.2.1 x hx)
theorem rOk_congr {N N' : Nat → Int32} {m S t : Nat} (hN : ∀ j, j < 207 → N' j = N j) (h : rOk N m S t) : rOk N' m S t := by
  obtain ⟨⟨⟨r1, r2, r3, r4, r5, r6, r7, r8⟩, i2, i3, e, e1, e2⟩, h2, h3, ⟨D, d1, d2⟩, h5⟩ := h
  have hO : sacksOk N' m S := sacksOk_congr (fun k _ => ⟨hN _ (by omega), hN _ (by omega), hN _ (by omega)⟩) i2
  have hW : weightOk N' S := weightOk_congr (fun k _ => hN _ (by omega)) i3
  refine ⟨⟨⟨by rw [hN 3 (by omega)]; exact r1, by rw [hN 4 (by omega)]; exact r2, by rw [hN 5 (by omega)]; exact r3, r4, r5, r6, fun i hi => muleOk_congr (hN _ (by omega)) (hN _ (by omega)) (r7 i hi), fun i hi => stageOk_congr (hN _ (by omega)) (hN _ (by omega)) (r8 i hi)⟩, hO, hW, e, by rw [hN 1 (by omega)]; exact e1, e2⟩, placesOk_congr (fun k _ => ⟨hN _ (by omega), hN _ (by omega)⟩) h2, loadsOk_of r5 hO hW (fun i hi => ?_), ⟨D, by rw [hN 6 (by omega)]; exact d1, d2⟩, fun i hi => lettersOk_congr (fun n hn => hN _ (by omega)) (h5 i hi)⟩
  obtain ⟨c, c1, c2, c3⟩ := loadsOk_to r5 i2 i3 h3 i hi
  have hl : ldK N' (Int32.ofNat i) S ≤ ldK N (Int32.ofNat i) S := ldK_mono S (fun x _ hx => ⟨by rw [← isOnB_congr (N := N) (hN _ (by omega)) (hN _ (by omega))]; exact hx, hN _ (by omega)⟩)
  refine ⟨c, ?_, by omega, c3⟩
  rw [bearN_congr (N := N) (hN _ (by omega)) (hN _ (by omega))]
  exact c1
theorem TrN_congr {M : mM} {b : Nat} {N N' : Nat → Int32} {m S t : Nat} (hN : ∀ j, j < 207 → N' j = N j) (h : TrN M b N m S t) : TrN M b N' m S t := by
  obtain ⟨⟨a1, a2, a3, a4, a5, a6⟩, ⟨b1, b2⟩, c1, d1, e1, f1, g1, h1, i1, j1⟩ := h
  refine ⟨⟨by rw [hN 3 (by omega)]; exact a1, by rw [hN 4 (by omega)]; exact a2, by rw [hN 5 (by omega)]; exact a3, a4, a5, a6⟩, ⟨by rw [hN 6 (by omega)]; exact b1, by rw [hN 7 (by omega)]; exact b2⟩, c1, d1, e1, fun j hj => by rw [hN _ (by omega)]; exact f1 j hj, fun j hj => by rw [hN _ (by omega)]; exact g1 j hj, fun i c hi hc => by rw [hN _ (by omega)]; exact h1 i c hi hc, fun i hi => ?_, fun i c hi hc => by rw [hN _ (by omega)]; exact j1 i c hi hc⟩
  obtain ⟨l1, l2, l3, l4⟩ := i1 i hi
  refine ⟨by rw [hN _ (by omega)]; exact l1, by rw [hN _ (by omega)]; exact l2, ?_, fun j hj => by rw [hN _ (by omega)]; exact l4 j hj⟩
  rw [lettN_congr (N := N) (fun n hn => hN _ (by omega))]; exact l3
