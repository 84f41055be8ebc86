/-! the reference reads one of some words -/
theorem wdL_inj : ∀ q, q < 15 → ∀ q', q' < 15 → wdL q = wdL q' → q = q' := by decide +kernel
theorem isW_yes {B : Nat → Nat} {s p q : Nat} (h : isW B s p q = true) : p - s = (wdL q).length ∧ ∀ i, i < (wdL q).length → B (s + i) = (wdL q).getD i 0 := by
  rw [isW, Bool.and_eq_true] at h
  exact ⟨Nat.eq_of_beq_eq_true h.1, fun i hi => Nat.eq_of_beq_eq_true (List.all_eq_true.mp h.2 i (List.mem_range.mpr hi))⟩
theorem isW_one {B : Nat → Nat} {s p q q' : Nat} (hq : q < 15) (hq' : q' < 15) (h : isW B s p q = true) (h' : isW B s p q' = true) : q = q' := by
  obtain ⟨a, b⟩ := isW_yes h
  obtain ⟨c, d⟩ := isW_yes h'
  refine wdL_inj q hq q' hq' (List.ext_getElem (a.symm.trans c) (fun i h1 h2 => ?_))
  have h3 := (b i h1).symm.trans (d i h2)
  rw [List.getD_eq_getElem?_getD, List.getD_eq_getElem?_getD, List.getElem?_eq_getElem h1, List.getElem?_eq_getElem h2] at h3
  exact h3
def selV (P : Nat → Bool) : Nat → Int32
  | 0 => -1
  | i + 1 => if P i then Int32.ofNat i else selV P i
theorem selV_no {P : Nat → Bool} : ∀ k, (∀ j, j < k → P j = false) → selV P k = -1 := by
  intro k
  induction k with
  | zero => intro _; rfl
  | succ k ih =>
    intro h
    rw [selV, h k (by omega), if_neg (by decide), ih (fun j hj => h j (by omega))]
theorem selV_at {P : Nat → Bool} {i : Nat} (h : P i = true) : ∀ k, i < k → (∀ j, i < j → j < k → P j = false) → selV P k = Int32.ofNat i := by
  intro k
  induction k with
  | zero => intro h; omega
  | succ k ih =>
    intro h1 h2
    rw [selV]
    by_cases e : i = k
    · subst e
      rw [h, if_pos rfl]
    · rw [h2 k (by omega) (by omega), if_neg (by decide), ih (by omega) (fun j a b => h2 j a (by omega))]
section MONE
variable {RO : List mE} {d n sb : Nat} {ext : List sh} {M : mM} {Q : mQ} {B : Nat → Nat}
theorem e_key {e q : Nat} {lr : Bool} (hq : q < 15) (hP : PM M n B) (hK : I_key M) (he : e ≤ n) (hT : MT M B n e lr) : EvR RO (d + 1) 167 [.ref 145, .int (Int32.ofNat q)] (gW sb ext) M (some (.int (zb (Nat.beq (tokK B n e lr) 1 && isW B (skp B n e) (tokE B n e) q)))) M := by
  obtain ⟨t1, t2, t3, t4⟩ := hT
  have hte := tokE_le (B := B) he
  have hsk := skp_le (B := B) he
  by_cases h0 : skp B n e ≤ tokE B n e
  · exact e_isKey hq hP hK t3 tokK_lt t1 t2 h0 hte.2 (fun h => (tok_1 he h).2.2)
  · exfalso
    apply h0
    unfold tokE
    split
    · omega
    · split
      · exact (run_le (B := B) (k := 1) hsk.2).1
      · split
        · exact (run_le (B := B) (k := 2) hsk.2).1
        · omega
theorem e_oneX {q0 cnt : Nat} (hc : cnt < 15) (h : M 145 23 ≠ 0) : EvR RO (d + 3) 222 [.ref 145, .int (Int32.ofNat q0), .int (Int32.ofNat cnt)] (gW sb ext) M (some (.int 0)) M := by
  refine EvR.of (fun Q hQ => ?_)
  refine EvP.wp [42] 60 rfl ?_
  have out : GoP RO (d + 2) 222 [.ref 145, .int (Int32.ofNat q0), .int (Int32.ofNat cnt), .int (-1), .int 0] [] (gW sb ext) M 42 0 0 Q := by
    refine wp_sound [] 60 _ _ _ _ _ _ _ ?_
    refine ⟨fun _ => ?_, fun h9 => absurd rfl h9⟩
    refine (e_errsX h).use ?_
    refine (e_goesX h).use ?_
    refine ⟨fun _ => ?_, fun h9 => absurd rfl h9⟩
    exact hQ
  refine lt_if (a := 0) (b := cnt) rfl rfl (by omega) (by omega) (fun _ => ?_) (fun _ => ?_)
  · refine ⟨fun h9 => absurd h9 h, fun _ => ?_⟩
    exact out
  · exact out
theorem e_one {e q0 cnt : Nat} {lr : Bool} (hq : q0 + cnt ≤ 15) (hP : PM M n B) (hK : I_key M) (he : e ≤ n) (hT : MT M B n e lr) (h0 : M 145 23 = 0) (hok : ∀ i e' M', pWord B n e lr q0 cnt = .inr (i, e') → FrN M M' → MT M' B n e' true → Q (.inl (some (.int (Int32.ofNat i)))) (gW sb ext) M' 0 0) (her : ∀ k x M', pWord B n e lr q0 cnt = .inl (k, x) → ErM M M' k x → Q (.inl (some (.int 0))) (gW sb ext) M' 0 0) : EvP RO (d + 4) 222 [.ref 145, .int (Int32.ofNat q0), .int (Int32.ofNat cnt)] (gW sb ext) M Q := by
  have key := up_ind (S := cnt) (H := fun i => GoP RO (d + 3) 222 [.ref 145, .int (Int32.ofNat q0), .int (Int32.ofNat cnt), .int (selV (fun j => Nat.beq (tokK B n e lr) 1 && isW B (skp B n e) (tokE B n e) (q0 + j)) i), .int (Int32.ofNat i)] [] (gW sb ext) M 5 0 0 Q) ?_ (fun i hi ih => ?_) 0 (by omega)
  · refine EvP.wp [5] 60 rfl ?_
    exact key
  · refine wp_sound [5] 60 _ _ _ _ _ _ _ ?_
    refine lt_if rfl rfl (by omega) (by omega) (fun h => absurd h (by omega)) (fun _ => ?_)
    by_cases hex : ∃ i, i < cnt ∧ (Nat.beq (tokK B n e lr) 1 && isW B (skp B n e) (tokE B n e) (q0 + i)) = true
    · obtain ⟨i, hi, hw⟩ := hex
      have hw2 := hw
      rw [Bool.and_eq_true] at hw2
      have oth : ∀ j, j < cnt → j ≠ i → (Nat.beq (tokK B n e lr) 1 && isW B (skp B n e) (tokE B n e) (q0 + j)) = false := fun j hj hne => by
        cases h9 : Nat.beq (tokK B n e lr) 1 && isW B (skp B n e) (tokE B n e) (q0 + j) with
        | false => rfl
        | true =>
          rw [Bool.and_eq_true] at h9
          have := isW_one (by omega) (by omega) h9.2 hw2.2
          omega
      obtain ⟨a1, a2⟩ := pWord_at hi (fun j hj => oth j (by omega) (by omega)) hw
      rw [selV_at (P := fun j => Nat.beq (tokK B n e lr) 1 && isW B (skp B n e) (tokE B n e) (q0 + j)) hw cnt hi (fun j x y => oth j y (by omega))]
      refine ⟨fun h => absurd h (i_ne_m1 (by omega)), fun _ => ?_⟩
      refine e_goes hP he hT h0 (fun M1 f1 t1 => ?_)
      rw [a2] at t1
      refine ⟨fun h => absurd h (i_ne_m1 (by omega)), fun _ => ?_⟩
      exact hok i _ M1 a1 f1 t1
    · have oth : ∀ j, j < cnt → (Nat.beq (tokK B n e lr) 1 && isW B (skp B n e) (tokE B n e) (q0 + j)) = false := fun j hj => by
        cases h9 : Nat.beq (tokK B n e lr) 1 && isW B (skp B n e) (tokE B n e) (q0 + j) with
        | false => rfl
        | true => exact absurd ⟨j, hj, h9⟩ hex
      rw [selV_no (P := fun j => Nat.beq (tokK B n e lr) 1 && isW B (skp B n e) (tokE B n e) (q0 + j)) cnt oth]
      refine ⟨fun _ => ?_, fun h => absurd rfl h⟩
      have hE := er_errs (M := M) (k := 1) hT.1 (by omega) (by omega)
      refine (e_errs (x := Int32.ofNat 1) h0).use ?_
      refine (e_goesX hE.no).use ?_
      refine ⟨fun _ => ?_, fun h => absurd rfl h⟩
      exact her 1 _ _ (pWord_no oth) hE
  · have hk : ∀ d, EvR RO (d + 1) 167 [.ref 145, .int (Int32.ofNat q0 + Int32.ofNat i)] (gW sb ext) M (some (.int (zb (Nat.beq (tokK B n e lr) 1 && isW B (skp B n e) (tokE B n e) (q0 + i))))) M := fun d => by
      rw [i_add]
      exact e_key (by omega) hP hK he hT
    rw [selV] at ih
    refine wp_sound [5] 60 _ _ _ _ _ _ _ ?_
    refine lt_if rfl rfl (by omega) (by omega) (fun _ => ?_) (fun h => absurd h (by omega))
    refine ⟨fun _ => ?_, fun h => absurd h0 h⟩
    refine (hk _).use ?_
    refine zb_if (fun h => ?_) (fun h => ?_)
    · rw [h, if_neg (by decide)] at ih
      exact GoP.eq2 ih (by rw [i_inc]) rfl
    · rw [h, if_pos rfl] at ih
      exact GoP.eq2 ih (by rw [i_inc]) rfl
end MONE
