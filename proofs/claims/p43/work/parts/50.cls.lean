/-! the class's trains against a row of numbers -/
def rowS (N : Nat → Int32) (m S t : Nat) : Prop := N 3 = Int32.ofNat m ∧ N 4 = Int32.ofNat S ∧ N 5 = Int32.ofNat t ∧ m ≤ 6 ∧ S ≤ 16 ∧ t ≤ 8
def TrN (M : mM) (b : Nat) (N : Nat → Int32) (m S t : Nat) : Prop :=
  rowS N m S t ∧ (M b 5 = N 6 ∧ M b 6 = N 7) ∧ (M (b + 1) 0 = 8 ∧ M (b + 1) 2 = Int32.ofNat S) ∧ (M (b + 3) 0 = 9 ∧ M (b + 3) 2 = Int32.ofNat m) ∧ (M (b + 5) 0 = 2 ∧ M (b + 5) 2 = Int32.ofNat t) ∧ (∀ j, j < 3 → M (b + 7) j = N j) ∧ (∀ j, j < 7 → M (b + 8) j = N (8 + j)) ∧ (∀ i c, i < S → c < 8 → M (b + 2) (8 * i + c) = N (63 + 8 * i + c)) ∧ (∀ i, i < m → M (b + 4) (9 * i) = N (15 + 8 * i) ∧ M (b + 4) (9 * i + 1) = N (15 + 8 * i + 1) ∧ M (b + 4) (9 * i + 2) = Int32.ofNat (lettN N i) ∧ ∀ j, j < 6 → M (b + 4) (9 * i + 3 + j) = N (15 + 8 * i + 2 + j)) ∧ (∀ i c, i < t → c < 2 → M (b + 6) (2 * i + c) = N (191 + 2 * i + c))
def FrB (b : Nat) (M M' : mM) : Prop := ∀ q, q < b ∨ b + 8 < q → M' q = M q
theorem FrB.refl {b : Nat} {M : mM} : FrB b M M := fun _ _ => rfl
theorem FrB.trans {b : Nat} {M M' M'' : mM} (h : FrB b M M') (h' : FrB b M' M'') : FrB b M M'' := fun q hq => (h' q hq).trans (h q hq)
theorem FrB.up {b q : Nat} {M : mM} {f : Nat → Int32} (h : b ≤ q ∧ q ≤ b + 8) : FrB b M (upM M q f) := fun r hr => upM_ne (by omega)
theorem pick_congr {p p' : Nat → Bool} {r r' : Nat → Nat → Bool} : ∀ {n : Nat}, (∀ i, i < n → p' i = p i) → (∀ i j, i < n → j < i → r' i j = r i j) → pick p' r' n = pick p r n := by
  intro n
  induction n with
  | zero => intro _ _; rfl
  | succ n ih =>
    intro h1 h2
    have h3 := ih (fun i hi => h1 i (by omega)) (fun i j hi hj => h2 i j (by omega) hj)
    cases hp : p n with
    | false => rw [pick_off hp, pick_off ((h1 n (by omega)).trans hp), h3]
    | true =>
      cases hk : pick p r n with
      | none => rw [pick_new hk hp, pick_new (h3.trans hk) ((h1 n (by omega)).trans hp)]
      | some c => rw [pick_old hk hp, pick_old (h3.trans hk) ((h1 n (by omega)).trans hp), h2 n c (by omega) (pick_lt hk).1]
theorem lettN_congr {N N' : Nat → Int32} {i : Nat} (h : ∀ n, n < 6 → N' (15 + 8 * i + 2 + n) = N (15 + 8 * i + 2 + n)) : lettN N' i = lettN N i := by
  rw [lettN, lettN, lettI, lettI, pick_congr (fun n hn => by rw [h n hn]) (fun _ _ _ _ => rfl)]
theorem TrN_putS {M : mM} {b : Nat} {N : Nat → Int32} {m S t i c : Nat} {x : Int32} (hT : TrN M b N m S t) (hi : i < S) (hc : c < 8) : TrN (upM M (b + 2) (upd (M (b + 2)) (8 * i + c) x)) b (upd N (63 + 8 * i + c) x) m S t := by
  obtain ⟨⟨a1, a2, a3, a4, a5, a6⟩, ⟨b1, b2⟩, ⟨c1, c2⟩, ⟨d1, d2⟩, ⟨e1, e2⟩, f1, g1, h1, i1, j1⟩ := hT
  have ne : ∀ q, q ≠ b + 2 → upM M (b + 2) (upd (M (b + 2)) (8 * i + c) x) q = M q := fun q hq => upM_ne hq
  have nu : ∀ j, j < 63 ∨ 190 < j → upd N (63 + 8 * i + c) x j = N j := fun j hj => upd_ne (by omega)
  refine ⟨⟨by rw [nu 3 (by omega)]; exact a1, by rw [nu 4 (by omega)]; exact a2, by rw [nu 5 (by omega)]; exact a3, a4, a5, a6⟩, ⟨by rw [ne b (by omega), nu 6 (by omega)]; exact b1, by rw [ne b (by omega), nu 7 (by omega)]; exact b2⟩, ⟨by rw [ne _ (by omega)]; exact c1, by rw [ne _ (by omega)]; exact c2⟩, ⟨by rw [ne _ (by omega)]; exact d1, by rw [ne _ (by omega)]; exact d2⟩, ⟨by rw [ne _ (by omega)]; exact e1, by rw [ne _ (by omega)]; exact e2⟩, fun j hj => by rw [ne _ (by omega), nu j (by omega)]; exact f1 j hj, fun j hj => by rw [ne _ (by omega), nu _ (by omega)]; exact g1 j hj, fun i' c' hi' hc' => ?_, fun i' hi' => ?_, fun i' c' hi' hc' => by rw [ne _ (by omega), nu _ (by omega)]; exact j1 i' c' hi' hc'⟩
  · rw [upM_at]
    by_cases e : 8 * i' + c' = 8 * i + c
    · rw [e, upd_at, show 63 + 8 * i' + c' = 63 + 8 * i + c by omega, upd_at]
    · rw [upd_ne e, upd_ne (by omega)]; exact h1 i' c' hi' hc'
  · obtain ⟨k1, k2, k3, k4⟩ := i1 i' hi'
    refine ⟨by rw [ne _ (by omega), nu _ (by omega)]; exact k1, by rw [ne _ (by omega), nu _ (by omega)]; exact k2, ?_, fun j hj => by rw [ne _ (by omega), nu _ (by omega)]; exact k4 j hj⟩
    rw [ne _ (by omega), lettN_congr (N := N) (fun n hn => nu _ (by omega))]; exact k3
theorem TrN_tire {M : mM} {b : Nat} {N : Nat → Int32} {m S t i : Nat} {x : Int32} (hT : TrN M b N m S t) (hi : i < m) : TrN (upM M (b + 4) (upd (M (b + 4)) (9 * i + 1) x)) b (upd N (15 + 8 * i + 1) x) m S t := by
  obtain ⟨⟨a1, a2, a3, a4, a5, a6⟩, ⟨b1, b2⟩, ⟨c1, c2⟩, ⟨d1, d2⟩, ⟨e1, e2⟩, f1, g1, h1, i1, j1⟩ := hT
  have ne : ∀ q, q ≠ b + 4 → upM M (b + 4) (upd (M (b + 4)) (9 * i + 1) x) q = M q := fun q hq => upM_ne hq
  have nu : ∀ j, j < 15 ∨ 62 < j → upd N (15 + 8 * i + 1) x j = N j := fun j hj => upd_ne (by omega)
  refine ⟨⟨by rw [nu 3 (by omega)]; exact a1, by rw [nu 4 (by omega)]; exact a2, by rw [nu 5 (by omega)]; exact a3, a4, a5, a6⟩, ⟨by rw [ne b (by omega), nu 6 (by omega)]; exact b1, by rw [ne b (by omega), nu 7 (by omega)]; exact b2⟩, ⟨by rw [ne _ (by omega)]; exact c1, by rw [ne _ (by omega)]; exact c2⟩, ⟨by rw [ne _ (by omega)]; exact d1, by rw [ne _ (by omega)]; exact d2⟩, ⟨by rw [ne _ (by omega)]; exact e1, by rw [ne _ (by omega)]; exact e2⟩, fun j hj => by rw [ne _ (by omega), nu j (by omega)]; exact f1 j hj, fun j hj => by rw [ne _ (by omega), nu _ (by omega)]; exact g1 j hj, fun i' c' hi' hc' => by rw [ne _ (by omega), nu _ (by omega)]; exact h1 i' c' hi' hc', fun i' hi' => ?_, fun i' c' hi' hc' => by rw [ne _ (by omega), nu _ (by omega)]; exact j1 i' c' hi' hc'⟩
  obtain ⟨k1, k2, k3, k4⟩ := i1 i' hi'
  rw [upM_at]
  refine ⟨by rw [upd_ne (by omega), upd_ne (by omega)]; exact k1, ?_, ?_, fun j hj => by rw [upd_ne (by omega), upd_ne (by omega)]; exact k4 j hj⟩
  · by_cases e : i' = i
    · rw [e, upd_at, upd_at]
    · rw [upd_ne (by omega), upd_ne (by omega)]; exact k2
  · rw [upd_ne (by omega), lettN_congr (N := N) (fun n hn => upd_ne (by omega))]; exact k3
theorem TrN_count {M : mM} {b : Nat} {N : Nat → Int32} {m S t w : Nat} {x : Int32} (hT : TrN M b N m S t) (hw : w < 7) : TrN (upM M (b + 8) (upd (M (b + 8)) w x)) b (upd N (8 + w) x) m S t := by
  obtain ⟨⟨a1, a2, a3, a4, a5, a6⟩, ⟨b1, b2⟩, ⟨c1, c2⟩, ⟨d1, d2⟩, ⟨e1, e2⟩, f1, g1, h1, i1, j1⟩ := hT
  have ne : ∀ q, q ≠ b + 8 → upM M (b + 8) (upd (M (b + 8)) w x) q = M q := fun q hq => upM_ne hq
  have nu : ∀ j, j < 8 ∨ 14 < j → upd N (8 + w) x j = N j := fun j hj => upd_ne (by omega)
  refine ⟨⟨by rw [nu 3 (by omega)]; exact a1, by rw [nu 4 (by omega)]; exact a2, by rw [nu 5 (by omega)]; exact a3, a4, a5, a6⟩, ⟨by rw [ne b (by omega), nu 6 (by omega)]; exact b1, by rw [ne b (by omega), nu 7 (by omega)]; exact b2⟩, ⟨by rw [ne _ (by omega)]; exact c1, by rw [ne _ (by omega)]; exact c2⟩, ⟨by rw [ne _ (by omega)]; exact d1, by rw [ne _ (by omega)]; exact d2⟩, ⟨by rw [ne _ (by omega)]; exact e1, by rw [ne _ (by omega)]; exact e2⟩, fun j hj => by rw [ne _ (by omega), nu j (by omega)]; exact f1 j hj, fun j hj => ?_, fun i' c' hi' hc' => by rw [ne _ (by omega), nu _ (by omega)]; exact h1 i' c' hi' hc', fun i' hi' => ?_, fun i' c' hi' hc' => by rw [ne _ (by omega), nu _ (by omega)]; exact j1 i' c' hi' hc'⟩
  · rw [upM_at]
    by_cases e : j = w
    · rw [e, upd_at, upd_at]
    · rw [upd_ne e, upd_ne (by omega)]; exact g1 j hj
  · obtain ⟨k1, k2, k3, k4⟩ := i1 i' hi'
    refine ⟨by rw [ne _ (by omega), nu _ (by omega)]; exact k1, by rw [ne _ (by omega), nu _ (by omega)]; exact k2, ?_, fun j hj => by rw [ne _ (by omega), nu _ (by omega)]; exact k4 j hj⟩
    rw [ne _ (by omega), lettN_congr (N := N) (fun n hn => nu _ (by omega))]; exact k3
section CLS
variable {RO : List mE} {d sb : Nat} {ext : List sh} {M : mM} {Q : mQ} {b m S t : Nat} {N : Nat → Int32} {GG : List sh}
theorem c_atS {i c : Nat} (hb : bas GG b) (hT : TrN M b N m S t) (hi : i < S) (hc : c < 8) : EvR RO (d + 1) 31 [.ref (b + 1), .int (Int32.ofNat i), .int (Int32.ofNat c)] GG M (some (.int (N (63 + 8 * i + c)))) M := by
  obtain ⟨⟨a1, a2, a3, a4, a5, a6⟩, -, ⟨c1, c2⟩, -, -, -, -, h1, -, -⟩ := hT
  have hv := h1 i c hi hc
  have hx : Int32.ofNat i * M (b + 1) 0 + Int32.ofNat c = Int32.ofNat (8 * i + c) := by
    rw [c1, show (8 : Int32) = Int32.ofNat 8 from rfl, i_mul, i_add, Nat.mul_comm]
  rcases hb with ⟨rfl, sb, ext, rfl⟩ | ⟨rfl, sb, ext, rfl⟩ | ⟨rfl, c9, r9, rfl⟩
  all_goals
    refine EvP.wp [] 40 rfl ?_
    refine nn_if rfl (by omega) ?_
    refine lt_if rfl c2 (by omega) (by omega) (fun _ => ?_) (fun h => absurd h (by omega))
    refine nn_if rfl (by omega) ?_
    refine lt_if (b := 8) rfl c1 (by omega) (by omega) (fun _ => ?_) (fun h => absurd h (by omega))
    refine lt_if (b := 128) hx rfl (by omega) (by omega) (fun _ => ?_) (fun h => absurd h (by omega))
    refine ⟨8 * i + c, hx, by omega, ?_⟩
    refine ⟨?_, rfl, rfl, rfl, rfl⟩
    rw [← hv]
theorem c_atM {i c : Nat} (hb : bas GG b) (hT : TrN M b N m S t) (hi : i < m) (hc : c < 9) : EvR RO (d + 1) 31 [.ref (b + 3), .int (Int32.ofNat i), .int (Int32.ofNat c)] GG M (some (.int (M (b + 4) (9 * i + c)))) M := by
  obtain ⟨⟨a1, a2, a3, a4, a5, a6⟩, -, -, ⟨c1, c2⟩, -, -, -, -, -, -⟩ := hT
  have hx : Int32.ofNat i * M (b + 3) 0 + Int32.ofNat c = Int32.ofNat (9 * i + c) := by
    rw [c1, show (9 : Int32) = Int32.ofNat 9 from rfl, i_mul, i_add, Nat.mul_comm]
  rcases hb with ⟨rfl, sb, ext, rfl⟩ | ⟨rfl, sb, ext, rfl⟩ | ⟨rfl, c9, r9, rfl⟩
  all_goals
    refine EvP.wp [] 40 rfl ?_
    refine nn_if rfl (by omega) ?_
    refine lt_if rfl c2 (by omega) (by omega) (fun _ => ?_) (fun h => absurd h (by omega))
    refine nn_if rfl (by omega) ?_
    refine lt_if (b := 9) rfl c1 (by omega) (by omega) (fun _ => ?_) (fun h => absurd h (by omega))
    refine lt_if (b := 54) hx rfl (by omega) (by omega) (fun _ => ?_) (fun h => absurd h (by omega))
    refine ⟨9 * i + c, hx, by omega, ?_⟩
    exact ⟨rfl, rfl, rfl, rfl, rfl⟩
theorem c_atT {i c : Nat} (hb : bas GG b) (hT : TrN M b N m S t) (hi : i < t) (hc : c < 2) : EvR RO (d + 1) 31 [.ref (b + 5), .int (Int32.ofNat i), .int (Int32.ofNat c)] GG M (some (.int (N (191 + 2 * i + c)))) M := by
  obtain ⟨⟨a1, a2, a3, a4, a5, a6⟩, -, -, -, ⟨c1, c2⟩, -, -, -, -, j1⟩ := hT
  have hv := j1 i c hi hc
  have hx : Int32.ofNat i * M (b + 5) 0 + Int32.ofNat c = Int32.ofNat (2 * i + c) := by
    rw [c1, show (2 : Int32) = Int32.ofNat 2 from rfl, i_mul, i_add, Nat.mul_comm]
  rcases hb with ⟨rfl, sb, ext, rfl⟩ | ⟨rfl, sb, ext, rfl⟩ | ⟨rfl, c9, r9, rfl⟩
  all_goals
    refine EvP.wp [] 40 rfl ?_
    refine nn_if rfl (by omega) ?_
    refine lt_if rfl c2 (by omega) (by omega) (fun _ => ?_) (fun h => absurd h (by omega))
    refine nn_if rfl (by omega) ?_
    refine lt_if (b := 2) rfl c1 (by omega) (by omega) (fun _ => ?_) (fun h => absurd h (by omega))
    refine lt_if (b := 16) hx rfl (by omega) (by omega) (fun _ => ?_) (fun h => absurd h (by omega))
    refine ⟨2 * i + c, hx, by omega, ?_⟩
    refine ⟨?_, rfl, rfl, rfl, rfl⟩
    rw [← hv]
theorem c_putS {i c : Nat} {x : Int32} (hb : bas GG b) (hT : TrN M b N m S t) (hi : i < S) (hc : c < 8) : EvR RO (d + 1) 38 [.ref (b + 1), .int (Int32.ofNat i), .int (Int32.ofNat c), .int x] GG M none (upM M (b + 2) (upd (M (b + 2)) (8 * i + c) x)) := by
  obtain ⟨⟨a1, a2, a3, a4, a5, a6⟩, -, ⟨c1, c2⟩, -, -, -, -, h1, -, -⟩ := hT
  have hx : Int32.ofNat i * M (b + 1) 0 + Int32.ofNat c = Int32.ofNat (8 * i + c) := by
    rw [c1, show (8 : Int32) = Int32.ofNat 8 from rfl, i_mul, i_add, Nat.mul_comm]
  rcases hb with ⟨rfl, sb, ext, rfl⟩ | ⟨rfl, sb, ext, rfl⟩ | ⟨rfl, c9, r9, rfl⟩
  all_goals
    refine EvP.wp [] 40 rfl ?_
    refine nn_if rfl (by omega) ?_
    refine lt_if rfl c2 (by omega) (by omega) (fun _ => ?_) (fun h => absurd h (by omega))
    refine nn_if rfl (by omega) ?_
    refine lt_if (b := 8) rfl c1 (by omega) (by omega) (fun _ => ?_) (fun h => absurd h (by omega))
    refine lt_if (b := 128) hx rfl (by omega) (by omega) (fun _ => ?_) (fun h => absurd h (by omega))
    refine ⟨8 * i + c, hx, by omega, ?_⟩
    exact ⟨rfl, rfl, rfl, rfl, rfl⟩
theorem c_putM {i c : Nat} {x : Int32} (hb : bas GG b) (hT : TrN M b N m S t) (hi : i < m) (hc : c < 9) : EvR RO (d + 1) 38 [.ref (b + 3), .int (Int32.ofNat i), .int (Int32.ofNat c), .int x] GG M none (upM M (b + 4) (upd (M (b + 4)) (9 * i + c) x)) := by
  obtain ⟨⟨a1, a2, a3, a4, a5, a6⟩, -, -, ⟨c1, c2⟩, -, -, -, -, -, -⟩ := hT
  have hx : Int32.ofNat i * M (b + 3) 0 + Int32.ofNat c = Int32.ofNat (9 * i + c) := by
    rw [c1, show (9 : Int32) = Int32.ofNat 9 from rfl, i_mul, i_add, Nat.mul_comm]
  rcases hb with ⟨rfl, sb, ext, rfl⟩ | ⟨rfl, sb, ext, rfl⟩ | ⟨rfl, c9, r9, rfl⟩
  all_goals
    refine EvP.wp [] 40 rfl ?_
    refine nn_if rfl (by omega) ?_
    refine lt_if rfl c2 (by omega) (by omega) (fun _ => ?_) (fun h => absurd h (by omega))
    refine nn_if rfl (by omega) ?_
    refine lt_if (b := 9) rfl c1 (by omega) (by omega) (fun _ => ?_) (fun h => absurd h (by omega))
    refine lt_if (b := 54) hx rfl (by omega) (by omega) (fun _ => ?_) (fun h => absurd h (by omega))
    refine ⟨9 * i + c, hx, by omega, ?_⟩
    exact ⟨rfl, rfl, rfl, rfl, rfl⟩
end CLS
