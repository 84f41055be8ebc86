/-! the class's trip -/
def popI (a : Nat) : Int32 := sm (fun j => zb (a.testBit j)) 6
theorem pop_lt {a m : Nat} (hm : m ≤ 6) (ha : a < 2 ^ m) : sm (fun j => zb (a.testBit j)) m = popI a := by
  have key : ∀ n, m + n ≤ 6 → sm (fun j => zb (a.testBit j)) (m + n) = sm (fun j => zb (a.testBit j)) m := by
    intro n
    induction n with
    | zero => intro _; rfl
    | succ n ih =>
      intro h
      show sm (fun j => zb (a.testBit j)) (m + n) + zb (a.testBit (m + n)) = _
      rw [ih (by omega), Nat.testBit_lt_two_pow (Nat.lt_of_lt_of_le ha (Nat.pow_le_pow_right (by decide) (by omega)))]
      exact Int32.add_zero _
  rw [popI, ← key (6 - m) (by omega), show m + (6 - m) = 6 by omega]
section CLS
variable {RO : List mE} {d sb : Nat} {ext : List sh} {M : mM} {Q : mQ} {b m S t : Nat} {N : Nat → Int32} {GG : List sh}
set_option maxRecDepth 20000 in
theorem c_bitCount {a : Nat} (ha : a < 64) : EvR RO (d + 1) 342 [.int (Int32.ofNat a)] GG M (some (.int (popI a))) M := by
  refine EvP.wp [] 60 rfl ?_
  refine ⟨?_, rfl, rfl, rfl, rfl⟩
  refine congrArg (fun x => Sum.inl (some (Value.int x))) ?_
  revert a
  decide +kernel
theorem c_deliver (hb : bas GG b) (hT : TrN M b N m S t) (hQ : ∀ M', TrN M' b (delN N S) m S t → FrB b M M' → Q (.inl none) GG M' 0 0) : EvP RO (d + 3) 44 [.ref b] GG M Q := by
  have hS := hT.1.2.2.2.2.1
  have key := up_ind (S := S) (H := fun k => ∀ M2, TrN M2 b (delN N k) m S t → FrB b M M2 → GoP RO (d + 2) 44 [.ref b, .int (Int32.ofNat k)] [] GG M2 2 0 0 Q) (fun M2 hT2 hF2 => ?_) (fun k hk ih M2 hT2 hF2 => ?_) 0 (by omega)
  · have k0 := key M hT FrB.refl
    rcases hb with ⟨rfl, sb, ext, rfl⟩ | ⟨rfl, sb, ext, rfl⟩ | ⟨rfl, c9, r9, rfl⟩
    all_goals
      refine EvP.wp [2] 60 rfl ?_
      exact k0
  · have hu := hT2.2.2.1.2
    have hq := hQ M2 hT2 hF2
    rcases hb with ⟨rfl, sb, ext, rfl⟩ | ⟨rfl, sb, ext, rfl⟩ | ⟨rfl, c9, r9, rfl⟩
    all_goals
      refine wp_sound [2] 60 _ _ _ _ _ _ _ ?_
      refine lt_if rfl hu (by omega) (by omega) (fun h => absurd h (by omega)) (fun _ => ?_)
      exact hq
  · have hu := hT2.2.2.1.2
    rw [delN] at ih
    generalize delN N k = P at *
    have q3 := fun d => c_atS (RO := RO) (d := d) (GG := GG) (c := 3) hb hT2 hk (by omega)
    have q2 := fun d => c_atS (RO := RO) (d := d) (GG := GG) (c := 2) hb hT2 hk (by omega)
    have gm : M2 b 6 = P 7 := hT2.2.1.2
    have t1 := TrN_obj (f := 6) (x := P 7 + P (63 + 8 * k + 2)) hT2 (Or.inr rfl)
    have q2' := fun d => c_atS (RO := RO) (d := d) (GG := GG) (c := 2) hb t1 hk (by omega)
    have hw7 : upd P (6 + 1) (P 7 + P (63 + 8 * k + 2)) (63 + 8 * k + 2) = P (63 + 8 * k + 2) := upd_ne (by omega)
    simp only [hw7] at q2'
    have g1 : M2 (b + 8) 1 = P 9 := hT2.2.2.2.2.2.2.1 1 (by omega)
    have t2 := TrN_count (w := 1) (x := P 9 + P (63 + 8 * k + 2)) t1 (by omega)
    have off : ∀ (d : Nat) (Q : mQ), (∀ M', TrN M' b (offN (upd (upd P 7 (P 7 + P (63 + 8 * k + 2))) 9 (P 9 + P (63 + 8 * k + 2))) k 2) m S t → FrB b _ M' → Q (.inl none) GG M' 0 0) → EvP RO (d + 2) 73 [.ref b, .int (Int32.ofNat k), .int 2] GG _ Q := fun d Q => c_takeOff (RO := RO) (d := d) (GG := GG) (p := 2) hb t2 hk
    have fin : ∀ M3, TrN M3 b (offN (upd (upd P 7 (P 7 + P (63 + 8 * k + 2))) 9 (P 9 + P (63 + 8 * k + 2))) k 2) m S t → (∀ d, EvR RO (d + 1) 38 [.ref (b + 1), .int (Int32.ofNat k), .int (Int32.ofNat 6), .int (M3 b 5)] GG M3 none (upM M3 (b + 2) (upd (M3 (b + 2)) (8 * k + 6) (M3 b 5)))) ∧ TrN (upM M3 (b + 2) (upd (M3 (b + 2)) (8 * k + 6) (M3 b 5))) b (del1 P k) m S t := by
      intro M3 t3
      have hday : M3 b 5 = P 6 := by
        rw [t3.2.1.1, offN_at (by omega) (by omega), upd_ne (by decide), upd_ne (by decide)]
      refine ⟨fun d => c_putS (c := 6) hb t3 hk (by omega), ?_⟩
      have t4 := TrN_putS (c := 6) (x := P 6) t3 hk (by omega)
      rw [del_eq] at t4
      rw [hday]
      exact t4
    rw [← gm, ← g1] at off fin
    rw [← gm] at q2'
    rcases hb with ⟨rfl, sb, ext, rfl⟩ | ⟨rfl, sb, ext, rfl⟩ | ⟨rfl, c9, r9, rfl⟩
    all_goals
      refine wp_sound [2] 60 _ _ _ _ _ _ _ ?_
      refine lt_if rfl hu (by omega) (by omega) (fun _ => ?_) (fun h => absurd h (by omega))
      refine (q3 _).use ?_
      refine de_if (fun h1 => ?_) (fun h1 => ?_)
      · rw [h1] at ih
        refine (q2 _).use ?_
        refine ⟨1, rfl, by omega, ?_⟩
        refine (q2' _).use ?_
        refine ⟨1, rfl, by omega, ?_⟩
        refine off _ _ (fun M3 t3 f3 => ?_)
        obtain ⟨r1, r2⟩ := fin M3 t3
        refine (r1 _).use ?_
        refine GoP.eq2 (ih _ r2 ?_) (by rw [i_inc]) rfl
        exact (((hF2.trans (FrB.up (by omega))).trans (FrB.up (by omega))).trans f3).trans (FrB.up (by omega))
      · rw [h1] at ih
        refine GoP.eq2 (ih M2 hT2 hF2) (by rw [i_inc]) rfl
end CLS
