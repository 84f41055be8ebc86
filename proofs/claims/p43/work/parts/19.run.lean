/-! calls, a step, a run -/
section SIM
variable {X : mX} {cells slots : Nat} {ad ad0 : Nat → Nat} {L st r : List Value} {W9 W' : List mE} {pc n9 : Nat}
theorem mrecv_inst {RO W9 : List mE} {mode : Nat} {as : List Value} {r9 : List Nat} (hs : (Nat.beq mode 1 || Nat.beq mode 3 || Nat.beq mode 5) = false) (h : mrecv RO W9 mode as r9 = true) : ∃ q as2, as = .ref q :: as2 := by
  unfold mrecv at h
  rw [hs] at h
  simp only [cond_false] at h
  split at h
  · exact ⟨_, _, rfl⟩
  · cases h
theorem mrecv_0 {RO W9 : List mE} {q ci n5 : Nat} {as2 : List Value} (h : mrecv RO W9 0 (.ref q :: as2) [n5, ci] = true) : ∃ fs, mget RO W9 q = some (.inr (ci, fs)) := by
  unfold mrecv at h
  simp only [show Nat.beq 0 1 = false from rfl, show Nat.beq 0 3 = false from rfl, show Nat.beq 0 5 = false from rfl, show Nat.beq 0 2 = false from rfl, show Nat.beq 0 4 = false from rfl, show Nat.beq 0 0 = true from rfl, Bool.or_false, cond_false, Bool.true_and] at h
  split at h
  · rename_i cj fs n5' ci' hg hx
    cases hx
    cases Nat.eq_of_beq_eq_true h
    exact ⟨fs, hg⟩
  · rename_i hx; cases hx
  · rename_i hx; cases hx
  · cases h
theorem mrecv_6 {RO W9 : List mE} {mode q ci n5 n6 : Nat} {as2 : List Value} (hm : mode = 6 ∨ mode = 7) (h : mrecv RO W9 mode (.ref q :: as2) [n5, n6, ci] = true) : ∃ fs, mget RO W9 q = some (.inr (ci, fs)) := by
  unfold mrecv at h
  have h1 : (Nat.beq mode 1 || Nat.beq mode 3 || Nat.beq mode 5) = false := by rcases hm with rfl | rfl <;> rfl
  have h2 : (Nat.beq mode 2 || Nat.beq mode 4) = false := by rcases hm with rfl | rfl <;> rfl
  rw [h1, h2] at h
  simp only [cond_false] at h
  split at h
  · rename_i hx; cases hx
  · rename_i cj fs n5' n6' ci' hg hx
    cases hx
    cases Nat.eq_of_beq_eq_true h
    exact ⟨fs, hg⟩
  · rename_i hx; cases hx
  · cases h
theorem mrecv_8 {RO W9 : List mE} {q ci n5 n6 n7 kO : Nat} {as2 : List Value} (h : mrecv RO W9 8 (.ref q :: as2) [n5, n6, n7, kO, ci] = true) : ∃ fs, mget RO W9 q = some (.inr (ci, fs)) := by
  unfold mrecv at h
  have h1 : (Nat.beq 8 1 || Nat.beq 8 3 || Nat.beq 8 5) = false := rfl
  have h2 : (Nat.beq 8 2 || Nat.beq 8 4) = false := rfl
  rw [h1, h2] at h
  simp only [cond_false] at h
  split at h
  · rename_i hx; cases hx
  · rename_i hx; cases hx
  · rename_i cj fs a5 a6 a7 a8 ci' hg hx
    cases hx
    cases Nat.eq_of_beq_eq_true h
    exact ⟨fs, hg⟩
  · cases h
theorem rm9 {a b d m : Nat} (h1 : d + 31 ≤ a) (h2 : 60 * (d + 1) + 300 ≤ b) (h3 : m ≤ 41) : d + 31 ≤ a ∧ 8 + (m + 11) + (60 * d + 300) ≤ b := by omega
theorem nonil_nil {l : List (Nat × Nat × Nat × Nat)} (h : nonil l = false) : l = [] := by
  cases l with
  | nil => rfl
  | cons a b => cases h
theorem nonil_cons {l : List (Nat × Nat × Nat × Nat)} (h : nonil l = true) : ∃ a b, l = a :: b := by
  cases l with
  | nil => cases h
  | cons a b => exact ⟨a, b, rfl⟩
/-- the calls' answers are contracts -/
def mCalls (X : mX) (d : Nat) (call : mF) : Prop := ∀ (k9 : Nat) (as : List Value) (W9 : List mE) (o : mO) (W' : List mE) (mc ms : Nat), call k9 as W9 = some (o, W', mc, ms) → mCon (mL X) (mRO X) k9 d as W9 o W' mc ms
theorem m_call {i : Instr} {len nx mode k9 na z n1 n2 n3 n4 d op : Nat} {v : Value} {r9 : List Nat} {as : List Value} {call : mF} {a : mAct} (hX : mCx X) (hY : mCy X) (hk9 : mkk X < 376) (hag : ∀ j, j < n9 → ad j = ad0 j) (hle : n9 ≤ W9.length)
    (hcall : mCalls X d call) (hR : d + 31 ≤ (mRm X).frames ∧ 60 * (d + 1) + 300 ≤ (mRm X).locals)
    (hc : mckI (mkk X) pc i len 7 op nx (mode :: k9 :: na :: z :: n1 :: n2 :: n3 :: n4 :: r9) v = true) (hd : decode (mby (mkk X)) pc = .ok (i, len)) (has : as.length = mna mode na)
    (hm : mcal (mRO X) call (mkk X) pc nx mode k9 r9 as r L W9 cells slots = some a) (hK : mK X ad ad0 n9 W9.length a) : mGo X cells slots ad L (as.reverse ++ r) W9 pc := by
  unfold mckI at hc
  simp only [show Nat.beq 7 0 = false from rfl, show Nat.beq 7 1 = false from rfl, show Nat.beq 7 2 = false from rfl, show Nat.beq 7 3 = false from rfl, show Nat.beq 7 4 = false from rfl, show Nat.beq 7 5 = false from rfl, show Nat.beq 7 6 = false from rfl, show Nat.beq 7 7 = true from rfl, cond_true, cond_false, Bool.and_eq_true, decide_eq_true_eq] at hc
  obtain ⟨⟨⟨⟨⟨⟨hl3, hnx⟩, hcl⟩, hini⟩, hdesc⟩, hml9⟩, hcm⟩ := hc
  cases Nat.eq_of_beq_eq_true hl3
  cases Nat.eq_of_beq_eq_true hnx
  have hml9 : mml k9 ≤ 41 := Nat.le_of_ble_eq_true hml9
  unfold mcal at hm
  cases hb9 : (mcs r && mrecv (mRO X) W9 mode as r9) with
  | false => rw [hb9] at hm; cases hm
  | true =>
  rw [hb9] at hm
  simp only [cond_true] at hm
  simp only [Bool.and_eq_true] at hb9
  obtain ⟨hmr, hrc⟩ := hb9
  cases hca : call k9 as W9 with
  | none => rw [hca] at hm; cases hm
  | some res =>
  obtain ⟨o, W', mc, ms⟩ := res
  rw [hca] at hm
  have hM := hcall k9 as W9 o W' mc ms hca
  have hR9 : d + 31 ≤ (mRm X).frames ∧ 8 + (mml k9 + 11) + (60 * d + 300) ≤ (mRm X).locals := rm9 hR.1 hR.2 hml9
  have hbig : cells + mc ≤ (mRm X).cells ∧ slots + ms ≤ (mRm X).slots ∧ (∀ v, o = .inl v → W9.length ≤ W'.length → ∀ ad' : Nat → Nat, (∀ j, j < W9.length → ad' j = ad j) → mGo X (cells + mc) (slots + ms) ad' L (v.toList ++ r) W' (pc + 3)) ∧
      (∀ x, o = .inr x → W9.length ≤ W'.length → ∀ ad' : Nat → Nat, (∀ j, j < W9.length → ad' j = ad j) → mGoX X (cells + mc) (slots + ms) ad' L r W' pc x) := by
    cases o with
    | inl v =>
      cases hm
      obtain ⟨g1, g2, g3⟩ := hK
      exact ⟨g1, g2, fun v9 e _ ad' h => (by cases e; exact g3 ad' h), fun x e => (by cases e)⟩
    | inr x =>
      have hm : mexc (mkk X) pc x L W' (cells + mc) (slots + ms) = some a := hm
      have hb : cells + mc ≤ (mRm X).cells ∧ slots + ms ≤ (mRm X).slots := by
        unfold mexc at hm
        split at hm
        · cases hm; exact ⟨hK.1, hK.2.1⟩
        · split at hm
          · rename_i i nx _
            cases hb9 : (okp L i && Nat.blt x 3) with
            | false => rw [hb9] at hm; cases hm
            | true => rw [hb9] at hm; cases hm; exact ⟨hK.1, hK.2.1⟩
          · cases hm
      refine ⟨hb.1, hb.2, fun v e => (by cases e), fun x9 e hle2 ad' h => ?_⟩
      cases e
      refine m_exc (ad0 := ad0) (n9 := n9) hX hY hk9 (fun j hj => (h j (Nat.lt_of_lt_of_le hj hle)).trans (hag j hj)) (Nat.le_trans hle hle2) hm ?_
      unfold mexc at hm
      split at hm
      · cases hm; exact hK
      · split at hm
        · rename_i i nx _
          cases hb9 : (okp L i && Nat.blt x 3) with
          | false => rw [hb9] at hm; cases hm
          | true =>
            rw [hb9] at hm
            cases hm
            exact ⟨hK.1, hK.2.1, fun ad2 h2 => hK.2.2 ad2 (fun j hj => (h2 j (Nat.lt_of_lt_of_le hj hle2)).trans (h j hj))⟩
        · cases hm
  obtain ⟨hb1, hb2, kk, kx⟩ := hbig
  have hbb : cells + mc ≤ (mRm X).cells ∧ slots + ms ≤ (mRm X).slots := ⟨hb1, hb2⟩
  unfold mkCall at hcm
  have hrev : ∀ (q : Nat) (as2 : List Value), (Value.ref q :: as2).reverse ++ r = as2.reverse ++ .ref q :: r := fun q as2 => by simp
  cases m0 : Nat.beq mode 0 with
  | true =>
    cases Nat.eq_of_beq_eq_true m0
    simp only [show Nat.beq 0 0 = true from rfl, cond_true] at hcm
    obtain ⟨q, as2, rfl⟩ := mrecv_inst rfl hrc
    split at hcm
    · rename_i index n5 ci
      simp only [Bool.and_eq_true, Bool.not_eq_true'] at hcm
      obtain ⟨⟨⟨⟨w2, w4⟩, w5⟩, hnn⟩, hC⟩ := hcm
      split at hC
      · rename_i C T N hci
        obtain ⟨fs, hg⟩ := mrecv_0 hrc
        rw [hrev]
        have hlen : na = as2.length := by
          have : as2.length + 1 = na + 1 := has
          omega
        exact m_callV (n6 := 0) (n7 := 0) (host := "") hX hY hM (wck_1 w2) (wck_2 w2) (wck_1 hini) (wck_2 hini) (wck_1 w4) (wck_2 w4) (wck_1 w5) (wck_2 w5) (nonil_nil hnn) (by rw [← hlen]; exact hdesc) hci (of_decide_eq_true hC) hg hR9 hbb hcl hmr hd kk kx
      · cases hC
    · cases hcm
  | false =>
  rw [m0] at hcm
  simp only [cond_false] at hcm
  cases m1 : Nat.beq mode 1 with
  | true =>
    cases Nat.eq_of_beq_eq_true m1
    simp only [show Nat.beq 1 1 = true from rfl, cond_true] at hcm
    split at hcm
    · rename_i index
      simp only [Bool.and_eq_true, Bool.not_eq_true'] at hcm
      obtain ⟨⟨w2, w4⟩, hnn⟩ := hcm
      have hlen : na = as.length := has.symm
      exact m_callS (n5 := 0) (n6 := 0) (n7 := 0) (host := "") hX hY hM (wck_1 w2) (wck_2 w2) (wck_1 hini) (wck_2 hini) (wck_1 w4) (wck_2 w4) (nonil_nil hnn) (by rw [← hlen]; exact hdesc) hR9 hbb hcl hmr hd kk kx
    · cases hcm
  | false =>
  rw [m1] at hcm
  simp only [cond_false] at hcm
  cases m2 : Nat.beq mode 2 with
  | true =>
    cases Nat.eq_of_beq_eq_true m2
    simp only [show Nat.beq 2 2 = true from rfl, cond_true] at hcm
    obtain ⟨q, as2, rfl⟩ := mrecv_inst rfl hrc
    split at hcm
    · rename_i index
      simp only [Bool.and_eq_true, Bool.not_eq_true', decide_eq_true_eq] at hcm
      obtain ⟨⟨⟨⟨w2, w4⟩, hnn⟩, hret⟩, hname⟩ := hcm
      rw [hrev]
      have hlen : na = as2.length := by
        have : as2.length + 1 = na + 1 := has
        omega
      exact m_callI (n5 := 0) (n6 := 0) (n7 := 0) (host := "") hX hY hM (wck_1 w2) (wck_2 w2) (wck_1 hini) (wck_2 hini) (wck_1 w4) (wck_2 w4) (nonil_nil hnn) hret hname (by rw [← hlen]; exact hdesc) hR9 hbb hcl hmr hd kk kx
    · cases hcm
  | false =>
  rw [m2] at hcm
  simp only [cond_false] at hcm
  cases m3 : Nat.beq mode 3 with
  | true =>
    cases Nat.eq_of_beq_eq_true m3
    simp only [show Nat.beq 3 3 = true from rfl, cond_true] at hcm
    split at hcm
    · rename_i index
      simp only [Bool.and_eq_true, Bool.not_eq_true'] at hcm
      obtain ⟨⟨w2, w4⟩, hnn⟩ := hcm
      have hlen : na = as.length := has.symm
      exact m_callSN (n5 := 0) (n6 := 0) (n7 := 0) (host := "MuleTrain") hX hY hM (wck_1 w2) (wck_2 w2) (wck_1 hini) (wck_2 hini) (wck_1 w4) (wck_2 w4) (nonil_nil hnn) (fun _ _ h => va_tabs rfl rfl h) (by rw [← hlen]; exact hdesc) hR9 hbb hcl hmr hd kk kx
    · cases hcm
  | false =>
  rw [m3] at hcm
  simp only [cond_false] at hcm
  cases m4 : Nat.beq mode 4 with
  | true =>
    cases Nat.eq_of_beq_eq_true m4
    simp only [show Nat.beq 4 4 = true from rfl, cond_true] at hcm
    obtain ⟨q, as2, rfl⟩ := mrecv_inst rfl hrc
    split at hcm
    · rename_i index
      simp only [Bool.and_eq_true, Bool.not_eq_true', decide_eq_true_eq] at hcm
      obtain ⟨⟨⟨⟨w2, w4⟩, hnn⟩, hret⟩, hname⟩ := hcm
      rw [hrev]
      have hlen : na = as2.length := by
        have : as2.length + 1 = na + 1 := has
        omega
      exact m_callIN (n5 := 0) (n6 := 0) (n7 := 0) (host := "MuleTrain") hX hY hM (wck_1 w2) (wck_2 w2) (wck_1 hini) (wck_2 hini) (wck_1 w4) (wck_2 w4) (nonil_nil hnn) hret hname (fun _ _ h => va_tabs rfl rfl h) (by rw [← hlen]; exact hdesc) hR9 hbb hcl hmr hd kk kx
    · cases hcm
  | false =>
  rw [m4] at hcm
  simp only [cond_false] at hcm
  cases m5 : Nat.beq mode 5 with
  | true =>
    cases Nat.eq_of_beq_eq_true m5
    simp only [show Nat.beq 5 5 = true from rfl, cond_true] at hcm
    split at hcm
    · rename_i index
      simp only [Bool.and_eq_true, Bool.not_eq_true'] at hcm
      obtain ⟨⟨w2, w4⟩, hnn⟩ := hcm
      obtain ⟨ah, bh, hnh⟩ := nonil_cons hnn
      have hlen : na = as.length := has.symm
      exact m_callSX (n5 := 0) (n6 := 0) (n7 := 0) (host := "") hX hY hM (wck_1 w2) (wck_2 w2) (wck_1 hini) (wck_2 hini) (wck_1 w4) (wck_2 w4) hnh (by rw [← hlen]; exact hdesc) hR9 hbb hcl hmr hd kk kx
    · cases hcm
  | false =>
  rw [m5] at hcm
  simp only [cond_false] at hcm
  cases m6 : Nat.beq mode 6 with
  | true =>
    cases Nat.eq_of_beq_eq_true m6
    simp only [show Nat.beq 6 6 = true from rfl, cond_true] at hcm
    obtain ⟨q, as2, rfl⟩ := mrecv_inst rfl hrc
    split at hcm
    · rename_i index n5 n6 ci
      simp only [Bool.and_eq_true, Bool.not_eq_true'] at hcm
      obtain ⟨⟨⟨⟨w2, w4⟩, w6⟩, hnn⟩, hC⟩ := hcm
      split at hC
      · rename_i C T N hci
        obtain ⟨fs, hg⟩ := mrecv_6 (Or.inl rfl) hrc
        rw [hrev]
        have hlen : na = as2.length := by
          have : as2.length + 1 = na + 1 := has
          omega
        exact m_callU (n7 := 0) (host := "") hX hY hM (wck_1 w2) (wck_2 w2) (wck_1 hini) (wck_2 hini) (wck_1 w4) (wck_2 w4) (wck_1 hC) (wck_2 hC) (wck_1 w6) (wck_2 w6) (nonil_nil hnn) (by rw [← hlen]; exact hdesc) hci hg hR9 hbb hcl hmr hd kk kx
      · cases hC
    · cases hcm
  | false =>
  rw [m6] at hcm
  simp only [cond_false] at hcm
  cases m7 : Nat.beq mode 7 with
  | true =>
    cases Nat.eq_of_beq_eq_true m7
    simp only [show Nat.beq 7 7 = true from rfl, cond_true] at hcm
    obtain ⟨q, as2, rfl⟩ := mrecv_inst rfl hrc
    split at hcm
    · rename_i index n5 n6 ci
      simp only [Bool.and_eq_true, Bool.not_eq_true'] at hcm
      obtain ⟨⟨⟨⟨⟨⟨w2, w4⟩, w6⟩, hnn⟩, w5⟩, hname⟩, hC⟩ := hcm
      split at hC
      · rename_i qc hci
        obtain ⟨C, T, N⟩ := qc
        obtain ⟨fs, hg⟩ := mrecv_6 (Or.inr rfl) hrc
        rw [hrev]
        have hlen : na = as2.length := by
          have : as2.length + 1 = na + 1 := has
          omega
        exact m_callSU (n7 := 0) (host := "") hX hY hM (wck_1 w2) (wck_2 w2) (wck_1 hini) (wck_2 hini) (wck_1 w4) (wck_2 w4) (wck_1 w5) (wck_2 w5) (wck_1 w6) (wck_2 w6) (nonil_nil hnn) (of_decide_eq_false hname) (by rw [← hlen]; exact hdesc) hci hg hR9 hbb hcl hmr hd kk kx
      · cases hC
    · cases hcm
  | false =>
  rw [m7] at hcm
  simp only [cond_false] at hcm
  cases m8 : Nat.beq mode 8 with
  | true =>
    cases Nat.eq_of_beq_eq_true m8
    simp only [show Nat.beq 8 8 = true from rfl, cond_true] at hcm
    obtain ⟨q, as2, rfl⟩ := mrecv_inst rfl hrc
    split at hcm
    · rename_i index n5 n6 n7 kO ci
      simp only [Bool.and_eq_true, Bool.not_eq_true', decide_eq_true_eq] at hcm
      obtain ⟨⟨⟨⟨⟨⟨⟨⟨w2, w4⟩, w6⟩, w7⟩, hnn⟩, hnO⟩, hclO⟩, hdO⟩, hC⟩ := hcm
      split at hC
      · rename_i C T N hci
        obtain ⟨fs, hg⟩ := mrecv_8 hrc
        rw [hrev]
        have hlen : na = as2.length := by
          have : as2.length + 1 = na + 1 := has
          omega
        obtain ⟨⟨kO', nO⟩, hO, rfl⟩ : ∃ z, mcl[kO]? = some z ∧ z.1 = kO := by
          cases hz : mcl[kO]? with
          | none => rw [hz] at hclO; cases hclO
          | some z => rw [hz] at hclO; exact ⟨z, rfl, Option.some.inj hclO⟩
        exact m_callO (n7 := n7) (host := "") hX hY hM (wck_1 w2) (wck_2 w2) (wck_1 hini) (wck_2 hini) (wck_1 w4) (wck_2 w4) (wck_1 hC) (wck_2 hC) (wck_1 w6) (wck_2 w6) (wck_1 w7) (wck_2 w7) (nonil_nil hnO) hO hdO (nonil_nil hnn) (by rw [← hlen]; exact hdesc) hci hg hR9 hbb hcl hmr hd kk kx
      · cases hC
    · cases hcm
  | false =>
    rw [m8] at hcm
    cases hcm
end SIM
