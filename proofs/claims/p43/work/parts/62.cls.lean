/-! the best packed; a rest -/
theorem sackOk_pack {N : Nat → Int32} {m k i j : Nat} {sd : Int32} (hj : j < m) (hs : sd = 0 ∨ sd = 1) (h : sackOk N m i) : sackOk (packN N k (Int32.ofNat j) sd) m i := by
  by_cases e : i = k
  · subst e
    refine Or.inl ⟨by rw [packN, upd_ne (by omega), upd_ne (by omega), upd_at], ⟨j, hj, by rw [packN, upd_ne (by omega), upd_at]⟩, ?_⟩
    rw [packN, upd_at]; exact hs
  · exact sackOk_congr (by rw [packN, upd_ne (by omega), upd_ne (by omega), upd_ne (by omega)]) (by rw [packN, upd_ne (by omega), upd_ne (by omega), upd_ne (by omega)]) (by rw [packN, upd_ne (by omega), upd_ne (by omega), upd_ne (by omega)]) h
theorem lightN_01 {N : Nat → Int32} {mm : Int32} {S : Nat} : lightN N mm S = 0 ∨ lightN N mm S = 1 := by
  rw [lightN]
  cases decide (wOn N mm 1 S < wOn N mm 0 S) with
  | false => exact Or.inl rfl
  | true => exact Or.inr rfl
theorem weightOk_pack {N : Nat → Int32} {S k : Nat} {mm sd : Int32} (h : weightOk N S) : weightOk (packN N k mm sd) S := weightOk_congr (fun i _ => by rw [packN, upd_ne (by omega), upd_ne (by omega), upd_ne (by omega)]) h
section CLS
variable {RO : List mE} {d sb : Nat} {ext : List sh} {M : mM} {Q : mQ} {m S t : Nat} {N : Nat → Int32} {GG : List sh}
theorem c_packBest {b j : Nat} (hb : bas GG b) (hT : TrN M b N m S t) (hO : sacksOk N m S) (hW : weightOk N S) (hj : j < m) (hQ : ∀ M', TrN M' b (fillN j S 16 N) m S t → FrB b M M' → Q (.inl (some (.int (Int32.ofNat (fillK j S 16 N))))) GG M' 0 0) : EvP RO (d + 5) 64 [.ref b, .int (Int32.ofNat j)] GG M Q := by
  have hm := hT.1.2.2.2.1
  have hS := hT.1.2.2.2.2.1
  have key : ∀ (n : Nat) (P : Nat → Int32) (M1 : mM) (pk : Nat) (v : Value), TrN M1 b P m S t → sacksOk P m S → weightOk P S → stoN P S ≤ n → n + pk = 16 → (∀ M', TrN M' b (fillN j S n P) m S t → FrB b M1 M' → Q (.inl (some (.int (Int32.ofNat (pk + fillK j S n P))))) GG M' 0 0) → GoP RO (d + 4) 64 [.ref b, .int (Int32.ofNat j), .int (Int32.ofNat pk), v] [] GG M1 2 0 0 Q := by
    intro n
    induction n with
    | zero =>
      intro P M1 pk v hT hO hW hs hn hQ
      have hq := hQ M1 hT FrB.refl
      rw [show pk + fillK j S 0 P = 16 from hn.symm ▸ (by rw [show fillK j S 0 P = 0 from rfl]; omega)] at hq
      refine wp_sound [2] 60 _ _ _ _ _ _ _ ?_
      refine lt_if (b := 16) rfl rfl (by omega) (by omega) (fun h => absurd h (by omega)) (fun _ => ?_)
      exact hq
    | succ n ih =>
      intro P M1 pk v hT hO hW hs hn hQ
      have hbf := fun d => c_bestFor (RO := RO) (d := d) (GG := GG) hb hT hO hj
      rw [fillN_s, fillK_s] at hQ
      cases hbe : bestI P j S S with
      | none =>
        rw [hbe] at hQ
        have hq := hQ M1 hT FrB.refl
        rw [hbe] at hbf
        rcases hb with ⟨rfl, sb, ext, rfl⟩ | ⟨rfl, sb, ext, rfl⟩ | ⟨rfl, c9, r9, rfl⟩
        all_goals
          refine wp_sound [2] 60 _ _ _ _ _ _ _ ?_
          refine lt_if (b := 16) rfl rfl (by omega) (by omega) (fun _ => ?_) (fun h => absurd h (by omega))
          refine (hbf _).use ?_
          refine ⟨fun _ => ?_, fun h => absurd rfl h⟩
          exact hq
      | some k =>
        rw [hbe] at hQ hbf
        have h9 := pick_lt hbe
        have hst := prN_store (of_decide_eq_true h9.2)
        have hf : fill1 P j S = packN P k (Int32.ofNat j) (lightN P (Int32.ofNat j) S) := by rw [fill1, hbe]; rfl
        have hls := fun d => c_lighterSide (RO := RO) (d := d) (GG := GG) (j := j) hb hT hO hW (by omega)
        have hpo : ∀ (d : Nat) (Q : mQ), (∀ M', TrN M' b (packN P k (Int32.ofNat j) (lightN P (Int32.ofNat j) S)) m S t → FrB b M1 M' → Q (.inl none) GG M' 0 0) → EvP RO (d + 2) 66 [.ref b, .int (Int32.ofNat k), .int (Int32.ofNat j), .int (lightN P (Int32.ofNat j) S)] GG M1 Q := fun d Q => c_putOn (RO := RO) (d := d) (GG := GG) hb hT h9.1
        have h8 := stoN_pack (m := Int32.ofNat j) (sd := lightN P (Int32.ofNat j) S) hst S h9.1
        have hn1 : ¬ Int32.ofNat k = -1 := i_ne_m1 (by omega)
        have ih' : ∀ M2, TrN M2 b (packN P k (Int32.ofNat j) (lightN P (Int32.ofNat j) S)) m S t → FrB b M1 M2 → ∀ v, GoP RO (d + 4) 64 [.ref b, .int (Int32.ofNat j), .int (Int32.ofNat (pk + 1)), v] [] GG M2 2 0 0 Q := by
          intro M2 h1 h2 v
          refine ih _ M2 (pk + 1) v h1 (fun i hi => sackOk_pack hj lightN_01 (hO i hi)) (weightOk_pack hW) (by omega) (by omega) (fun M' h3 h4 => ?_)
          rw [← hf] at h3 ⊢
          have hq := hQ M' h3 (h2.trans h4)
          rw [show pk + 1 + fillK j S n (fill1 P j S) = pk + (fillK j S n (fill1 P j S) + 1) by omega]
          exact hq
        clear ih hQ
        rcases hb with ⟨rfl, sb, ext, rfl⟩ | ⟨rfl, sb, ext, rfl⟩ | ⟨rfl, c9, r9, rfl⟩
        all_goals
          refine wp_sound [2] 60 _ _ _ _ _ _ _ ?_
          refine lt_if (b := 16) rfl rfl (by omega) (by omega) (fun _ => ?_) (fun h => absurd h (by omega))
          refine (hbf _).use ?_
          refine ⟨fun h => absurd h hn1, fun _ => ?_⟩
          refine (hls _).use ?_
          refine hpo _ _ (fun M2 x1 x2 => ?_)
          refine GoP.eq2 (ih' M2 x1 x2 _) (by rw [i_inc]) rfl
  have k16 := key 16 N M 0 (.retAddr 0) hT hO hW (Nat.le_trans (stoN_le S) hS) (by omega) (fun M' h1 h2 => by rw [Nat.zero_add]; exact hQ M' h1 h2)
  rcases hb with ⟨rfl, sb, ext, rfl⟩ | ⟨rfl, sb, ext, rfl⟩ | ⟨rfl, c9, r9, rfl⟩
  all_goals
    refine EvP.wp [2] 60 rfl ?_
    exact k16
end CLS
