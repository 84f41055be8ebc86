/-! what the class writes -/
def sQ (Q : mQ) (g : Nat) (M : mM) (l : List Int32) : Prop := ∀ g' M' mc ms, OutT g' M' l → FrO M M' → mc + g = g' → ms + 150 * g ≤ 150 * g' → Q (.inl none) (Wg g') M' mc ms
theorem FrO.T {M M' : mM} {N : Nat → Int32} {m S t : Nat} (h : FrO M M') (hT : TrN M 12 N m S t) : TrN M' 12 N m S t := TrN_fr hT (fun q a b => h q (by omega) (by omega) (by omega))
section OUT
variable {hs f : Nat → Int32} {d len : Nat} {M : mM} {Q : mQ} {g m S t : Nat} {N : Nat → Int32} {l : List Int32}
theorem c_writeSide {i sd0 : Nat} (hT : TrN M 12 N m S t) (hO : sacksOk N m S) (hi : i < m) (hD : OutT g M l) (hl : l.length + 48 ≤ 120) (hQ : sQ Q g M (l ++ sideL N (Int32.ofNat i) (Int32.ofNat sd0) S)) : EvP (RO9 hs len f) (d + 8) 131 [.ref 0, .int (Int32.ofNat i), .int (Int32.ofNat sd0)] (Wg g) M Q := by
  have hS := hT.1.2.2.2.2.1
  have hm := hT.1.2.2.2.1
  have loop := up_ind (S := S) (H := fun k => ∀ g' M' c s, OutT g' M' (l ++ sideL N (Int32.ofNat i) (Int32.ofNat sd0) k) → FrO M M' → c + g = g' → s + 150 * g ≤ 150 * g' → GoP (RO9 hs len f) (d + 7) 131 [.ref 0, .int (Int32.ofNat i), .int (Int32.ofNat sd0), .int (zb (sideL N (Int32.ofNat i) (Int32.ofNat sd0) k).isEmpty), .int (Int32.ofNat k)] [] (Wg g') M' 5 c s Q) (fun g' M' c s x1 x2 x3 x4 => ?_) (fun k hk ih g' M' c s x1 x2 x3 x4 => ?_) 0 (by omega)
  · have l0 := loop g M 0 0 (by rw [show sideL N (Int32.ofNat i) (Int32.ofNat sd0) 0 = [] from rfl, List.append_nil]; exact hD) FrO.refl (by omega) (by omega)
    refine EvP.wp [5] 60 rfl ?_
    exact l0
  · have hu := (x2.T hT).2.2.1.2
    refine wp_sound [5] 60 _ _ _ _ _ _ _ ?_
    refine lt_if rfl hu (by omega) (by omega) (fun h => absurd h (by omega)) (fun _ => ?_)
    exact hQ g' M' c s x1 x2 x3 x4
  · have hT' := x2.T hT
    have hu := hT'.2.2.1.2
    have at4 := fun d => c_atS (RO := RO9 hs len f) (d := d) (GG := Wg g') (c := 4) bas_12 hT' hk (by omega)
    have at5 := fun d => c_atS (RO := RO9 hs len f) (d := d) (GG := Wg g') (c := 5) bas_12 hT' hk (by omega)
    have hlen := sideL_len (N := N) (m := Int32.ofNat i) (sd := Int32.ofNat sd0) k (by omega)
    have hdl := digs_len2 (n := k) (by omega)
    have hon := on_eq (j := i) (hO k hk) (by omega)
    have off : (isOnB N (Int32.ofNat i) k && decide (N (63 + 8 * k + 5) = Int32.ofNat sd0)) = false → GoP (RO9 hs len f) (d + 7) 131 [.ref 0, .int (Int32.ofNat i), .int (Int32.ofNat sd0), .int (zb (sideL N (Int32.ofNat i) (Int32.ofNat sd0) k).isEmpty), .int (Int32.ofNat k + 1)] [] (Wg g') M' 5 c s Q := fun h => by
      have h9 := ih g' M' c s (by rw [sideL_off h]; exact x1) x2 x3 x4
      rw [sideL_off h] at h9
      rw [i_inc]
      exact h9
    refine wp_sound [5] 60 _ _ _ _ _ _ _ ?_
    refine lt_if rfl hu (by omega) (by omega) (fun _ => ?_) (fun h => absurd h (by omega))
    refine (at4 _).use ?_
    refine de_if (fun h1 => ?_) (fun h1 => ?_)
    · rw [hon] at h1
      refine (at5 _).use ?_
      refine de_if (fun h2 => ?_) (fun h2 => ?_)
      · have hb : (isOnB N (Int32.ofNat i) k && decide (N (63 + 8 * k + 5) = Int32.ofNat sd0)) = true := by rw [h1, show decide (N (63 + 8 * k + 5) = Int32.ofNat sd0) = true from h2]; rfl
        refine zb_if (fun h3 => ?_) (fun h3 => ?_)
        · -- a comma first
          refine c_appC x1 ⟨44, by decide, rfl⟩ (by rw [List.length_append]; omega) (fun g2 M2 mc ms y1 y2 y3 y4 => ?_)
          refine c_appI (n := k) y1 (by omega) (by
            rw [List.length_append, List.length_append]
            have : ([44] : List Int32).length = 1 := rfl
            omega) (fun g3 M3 mc2 ms2 z1 z2 z3 z4 => ?_)
          have hmore := sideL_more hb h3
          have h9 := ih g3 M3 (c + mc + mc2) (s + ms + ms2) (by rw [hmore, ← List.append_assoc]; rw [show l ++ sideL N (Int32.ofNat i) (Int32.ofNat sd0) k ++ 44 :: digs k = l ++ sideL N (Int32.ofNat i) (Int32.ofNat sd0) k ++ [44] ++ digs k by simp]; exact z1) ((x2.trans y2).trans z2) (by omega) (by omega)
          rw [hmore, show (sideL N (Int32.ofNat i) (Int32.ofNat sd0) k ++ 44 :: digs k).isEmpty = false by
            cases sideL N (Int32.ofNat i) (Int32.ofNat sd0) k <;> rfl] at h9
          refine GoP.eq2 h9 (by rw [i_inc]; rfl) rfl
        · refine c_appI (n := k) x1 (by omega) (by rw [List.length_append]; omega) (fun g3 M3 mc2 ms2 z1 z2 z3 z4 => ?_)
          have hnew := sideL_new hb h3
          have hnil : sideL N (Int32.ofNat i) (Int32.ofNat sd0) k = [] := List.isEmpty_iff.mp h3
          have h9 := ih g3 M3 (c + mc2) (s + ms2) (by rw [hnew]; rw [hnil, List.append_nil] at z1; exact z1) (x2.trans z2) (by omega) (by omega)
          rw [hnew, digs_ne] at h9
          refine GoP.eq2 h9 (by rw [i_inc]; rfl) rfl
      · exact off (by rw [show decide (N (63 + 8 * k + 5) = Int32.ofNat sd0) = false from h2, Bool.and_false])
    · rw [hon] at h1
      exact off (by rw [h1, Bool.false_and])
theorem letters_l {i : Nat} (h : lettersOk N i) : ∀ n, n < lettN N i → ∃ a, 97 ≤ a ∧ a ≤ 122 ∧ N (15 + 8 * i + 2 + n) = Int32.ofNat a := by
  obtain ⟨L, h1, h2, h3, h4⟩ := h
  have hL : lettN N i ≤ L := by
    have hnz : ∀ n, n < L → decide (N (15 + 8 * i + 2 + n) = 0) = false := fun n hn => by
      obtain ⟨a, a1, a2, a3⟩ := h3 n hn
      refine decide_eq_false (fun e => ?_)
      rw [a3] at e
      have := i_inj (by omega) (by omega) (e.trans (show (0 : Int32) = Int32.ofNat 0 from rfl))
      omega
    rcases Nat.lt_or_ge L 6 with h | h
    · have hno : pick (fun n => decide (N (15 + 8 * i + 2 + n) = 0)) (fun _ _ => false) L = none := by
        have key : ∀ n, n ≤ L → pick (fun n => decide (N (15 + 8 * i + 2 + n) = 0)) (fun _ _ => false) n = none := by
          intro n
          induction n with
          | zero => intro _; rfl
          | succ n ih => intro hn; rw [pick_off (hnz n (by omega))]; exact ih (by omega)
        exact key L (Nat.le_refl _)
      have h9 := pick_new hno (show (fun n => decide (N (15 + 8 * i + 2 + n) = 0)) L = true from decide_eq_true (h4 L (Nat.le_refl _) h))
      rw [lettN, lettI, pick_stays h9 6 (by omega)]
      exact Nat.le_refl _
    · exact Nat.le_trans lettN_le (by omega)
  exact fun n hn => h3 n (by omega)
theorem w_writeMule {v : Int32} (hT : TrN M 12 N m S t) (hR : rOk N m S t) (hD : OutT g M l) (h0 : inB v 0 (N 3 - 1) = false → Q (.inl (some (.int 1))) (Wg g) M 1 6) (h1 : ∀ i w, i < m → v = Int32.ofNat i → w < 1000 → loadN N (Int32.ofNat i) S = Int32.ofNat w → ∀ g' M' mc ms, OutT g' M' (muleL N i S w) → FrO M M' → mc + g = g' → ms + 150 * g ≤ 150 * g' → Q (.inl (some (.int 0))) (Wg g') (upM M' 157 (upd (M' 157) 0 (Int32.ofNat (muleL N i S w).length).toInt64.toInt32)) mc ms) : EvP (RO9 hs len f) (d + 14) 283 [.ref 0, .int v, .ref 157] (Wg g) M Q := by
  have hS := hT.1.2.2.2.2.1
  have hm := hT.1.2.2.2.1
  have e3 := hT.1.1
  have hu := hT.2.2.2.1.2
  refine EvP.wp [] 60 rfl ?_
  refine EvP.wp [15] 60 rfl ?_
  refine EvP.wp [] 60 rfl ?_
  refine ⟨fun x0 => ?_, fun x0 => ?_⟩
  · exact h0 (inB_out (by omega) e3 (Or.inl x0))
  refine ⟨fun x1 => ?_, fun x1 => ?_⟩
  rotate_left
  · rw [hu] at x1
    exact h0 (inB_out (by omega) e3 (Or.inr x1))
  rw [hu] at x1
  obtain ⟨i, hi, rfl⟩ := nat_lt (by omega) x0 x1
  obtain ⟨w, cb, w1, -, w2, w3⟩ := hR.2.2.1 i hi
  have hlt := lettN_le (N := N) (i := i)
  have hletters := letters_l (hR.2.2.2.2 i hi)
  have hq := h1 i w hi rfl (by omega) w1
  refine c_setLen hD (fun M1 y1 y2 => ?_)
  -- the name, sign by sign
  have loop : ∀ Q' : mQ, (∀ g' M' c s, OutT g' M' (nameL N i (lettN N i)) → FrO M M' → c + g = g' → s + 150 * g ≤ 150 * g' → GoP (RO9 hs len f) (d + 12) 130 [.ref 0, .int (Int32.ofNat i), .int (Int32.ofNat (lettN N i))] [] (Wg g') M' 55 c s Q') → ∀ k, k ≤ lettN N i → ∀ g' M' c s, OutT g' M' (nameL N i k) → FrO M M' → c + g = g' → s + 150 * g ≤ 150 * g' → GoP (RO9 hs len f) (d + 12) 130 [.ref 0, .int (Int32.ofNat i), .int (Int32.ofNat k)] [] (Wg g') M' 15 c s Q' := by
    intro Q' hQ'
    refine up_ind (S := lettN N i) (H := fun k => ∀ g' M' c s, OutT g' M' (nameL N i k) → FrO M M' → c + g = g' → s + 150 * g ≤ 150 * g' → GoP (RO9 hs len f) (d + 12) 130 [.ref 0, .int (Int32.ofNat i), .int (Int32.ofNat k)] [] (Wg g') M' 15 c s Q') (fun g' M' c s x1 x2 x3 x4 => ?_) (fun k hk ih g' M' c s x1 x2 x3 x4 => ?_)
    · have hT' := x2.T hT
      obtain ⟨-, -, k2, -⟩ := hT'.2.2.2.2.2.2.2.2.1 i hi
      have at2 := fun d => c_atM (RO := RO9 hs len f) (d := d) (GG := Wg g') (c := 2) bas_12 hT' hi (by omega)
      simp only [k2] at at2
      refine wp_sound [15, 55] 60 _ _ _ _ _ _ _ ?_
      refine (at2 _).use ?_
      refine lt_if rfl rfl (by omega) (by omega) (fun h => absurd h (by omega)) (fun _ => ?_)
      exact hQ' g' M' c s x1 x2 x3 x4
    · have hT' := x2.T hT
      obtain ⟨-, -, k2, -⟩ := hT'.2.2.2.2.2.2.2.2.1 i hi
      have at2 := fun d => c_atM (RO := RO9 hs len f) (d := d) (GG := Wg g') (c := 2) bas_12 hT' hi (by omega)
      simp only [k2] at at2
      obtain ⟨a, a1, a2, a3⟩ := hletters k hk
      have hle := fun d => c_letterOf (RO := RO9 hs len f) (d := d) (GG := Wg g') (v := Int32.ofNat k) bas_12 hT' hi
      have hlb : letB N i (Int32.ofNat k) = Int32.ofNat a := by
        rw [letB, inB_in (x := Int32.ofNat (lettN N i)) (by omega) rfl hk rfl, cond_true, clamp_nn (by omega), a3]
      simp only [hlb] at hle
      have hi2c := (byte_small a (by omega)).2.2.2.2.1
      have hap : ∀ (d : Nat) (Q'' : mQ), aQ Q'' g' M' (nameL N i (k + 1)) → EvP (RO9 hs len f) (d + 6) 321 [.ref 142, .int ((Int32.ofNat a).toUInt32 % 65536).toInt32] (Wg g') M' Q'' := fun d Q'' h => by
        rw [hi2c]
        rw [nameL, a3] at h
        exact c_appC x1 ⟨a, by omega, rfl⟩ (by rw [nameL_len]; omega) h
      refine wp_sound [15, 55] 60 _ _ _ _ _ _ _ ?_
      refine (at2 _).use ?_
      refine lt_if rfl rfl (by omega) (by omega) (fun _ => ?_) (fun h => absurd h (by omega))
      refine (hle _).use ?_
      refine hap _ _ (fun g2 M2 mc ms z1 z2 z3 z4 => ?_)
      refine GoP.eq2 (ih g2 M2 (c + mc) (s + ms) z1 (x2.trans z2) (by omega) (by omega)) (by rw [i_inc]) rfl
  refine GoP.eq2 (loop _ ?_ 0 (by omega) g M1 0 0 y1 y2 (by omega) (by omega)) rfl rfl
  intro g1 M2 c2 s2 z1 z2 z3 z4
  have hl1 := nameL_len (N := N) (i := i) (lettN N i)
  have hsd := fun sd => sideL_len (N := N) (m := Int32.ofNat i) (sd := sd) S hS
  have hd3 := digs_len (n := w)
  have l1 : ([58] : List Int32).length = 1 := rfl
  have l2 : ([124] : List Int32).length = 1 := rfl
  have l3 : ([61] : List Int32).length = 1 := rfl
  have hs0 := hsd (Int32.ofNat 0)
  have hs1 := hsd (Int32.ofNat 1)
  refine wp_sound [] 90 _ _ _ _ _ _ _ ?_
  refine c_appC (x := 58) z1 ⟨58, by decide, rfl⟩ (by omega) (fun g3 M3 mc3 ms3 a1 a2 a3 a4 => ?_)
  refine c_writeSide (i := i) (sd0 := 0) ((z2.trans a2).T hT) hR.1.2.1 hi a1 (by rw [List.length_append]; omega) (fun g4 M4 mc4 ms4 b1 b2 b3 b4 => ?_)
  refine c_appC (x := 124) b1 ⟨124, by decide, rfl⟩ (by rw [List.length_append, List.length_append]; omega) (fun g5 M5 mc5 ms5 c1 c2' c3 c4 => ?_)
  refine c_writeSide (i := i) (sd0 := 1) ((((z2.trans a2).trans b2).trans c2').T hT) hR.1.2.1 hi c1 (by rw [List.length_append, List.length_append, List.length_append]; omega) (fun g6 M6 mc6 ms6 d1 d2 d3 d4 => ?_)
  refine c_appC (x := 61) d1 ⟨61, by decide, rfl⟩ (by rw [List.length_append, List.length_append, List.length_append, List.length_append]; omega) (fun g7 M7 mc7 ms7 e1 e2 e3 e4 => ?_)
  have hF7 := ((((z2.trans a2).trans b2).trans c2').trans d2).trans e2
  have hlo := fun d => c_loadOn (RO := RO9 hs len f) (d := d) (GG := Wg g7) (j := i) bas_12 (hF7.T hT) hR.1.2.1 (by omega)
  simp only [w1] at hlo
  refine (hlo _).use ?_
  refine c_appI (n := w) e1 (by omega) (by rw [List.length_append, List.length_append, List.length_append, List.length_append, List.length_append]; omega) (fun g8 M8 mc8 ms8 f1 f2 f3 f4 => ?_)
  have hL : nameL N i (lettN N i) ++ [58] ++ sideL N (Int32.ofNat i) (Int32.ofNat 0) S ++ [124] ++ sideL N (Int32.ofNat i) (Int32.ofNat 1) S ++ [61] ++ digs w = muleL N i S w := by
    rw [muleL]
    simp
  rw [hL] at f1
  refine c_len.use ?_
  refine ⟨0, rfl, by omega, l_ok, ?_⟩
  rw [f1.2.2.2.1]
  exact hq g8 M8 _ _ f1 (hF7.trans f2) (by omega) (by omega)
end OUT
