/-! numbers, branches, loops -/
theorem i_add (a b : Nat) : Int32.ofNat a + Int32.ofNat b = Int32.ofNat (a + b) := (Int32.ofNat_add a b).symm
theorem i_mul (a b : Nat) : Int32.ofNat a * Int32.ofNat b = Int32.ofNat (a * b) := (Int32.ofNat_mul a b).symm
theorem i_lt {a b : Nat} (ha : a < 1000000) (hb : b < 1000000) : Int32.ofNat a < Int32.ofNat b ↔ a < b := Int32.ofNat_lt_iff_lt (by omega) (by omega)
theorem i_le {a b : Nat} (ha : a < 1000000) (hb : b < 1000000) : Int32.ofNat a ≤ Int32.ofNat b ↔ a ≤ b := Int32.ofNat_le_iff_le (by omega) (by omega)
theorem i_sub {a b : Nat} (h : b ≤ a) : Int32.ofNat a - Int32.ofNat b = Int32.ofNat (a - b) := (Int32.ofNat_sub a b h).symm
theorem i_toInt {a : Nat} (h : a < 1000000) : (Int32.ofNat a).toInt = a := Int32.toInt_ofNat_of_lt (by omega)
theorem i_inj {a b : Nat} (ha : a < 1000000) (hb : b < 1000000) (h : Int32.ofNat a = Int32.ofNat b) : a = b := by
  have := congrArg Int32.toInt h
  rw [i_toInt ha, i_toInt hb] at this
  omega
theorem i_nonneg {a : Nat} (h : a < 1000000) : ¬ Int32.ofNat a < 0 := by
  rw [Int32.lt_iff_toInt_lt, i_toInt h]
  simp
theorem i_ne_m1 {a : Nat} (h : a < 1000000) : ¬ Int32.ofNat a = -1 := by
  intro e
  have := congrArg Int32.toInt e
  rw [i_toInt h, show (-1 : Int32).toInt = -1 from by decide] at this
  omega
def zb (b : Bool) : Int32 := bif b then 1 else 0
theorem zb_if {b : Bool} {P Q : Prop} (h0 : b = false → P) (h1 : b = true → Q) : (zb b = 0 → P) ∧ (¬ zb b = 0 → Q) := by
  cases b with
  | false => exact ⟨fun _ => h0 rfl, fun h => absurd rfl h⟩
  | true => exact ⟨fun h => absurd h (by decide), fun _ => h1 rfl⟩
theorem lt_if {x y : Int32} {a b : Nat} {P Q : Prop} (hx : x = Int32.ofNat a) (hy : y = Int32.ofNat b) (ha : a < 1000000) (hb : b < 1000000) (h1 : a < b → P) (h2 : b ≤ a → Q) : (x < y → P) ∧ (¬ x < y → Q) := by
  subst hx hy
  rw [i_lt ha hb]
  exact ⟨h1, fun h => h2 (Nat.le_of_not_lt h)⟩
theorem eq_if {x y : Int32} {a b : Nat} {P Q : Prop} (hx : x = Int32.ofNat a) (hy : y = Int32.ofNat b) (ha : a < 1000000) (hb : b < 1000000) (h1 : a = b → P) (h2 : ¬ a = b → Q) : (x = y → P) ∧ (¬ x = y → Q) := by
  subst hx hy
  exact ⟨fun h => h1 (i_inj ha hb h), fun h => h2 (fun e => h (congrArg _ e))⟩
theorem nn_if {x : Int32} {a : Nat} {P Q : Prop} (hx : x = Int32.ofNat a) (ha : a < 1000000) (h2 : Q) : (x < 0 → P) ∧ (¬ x < 0 → Q) := by
  subst hx
  exact ⟨fun h => absurd h (i_nonneg ha), fun _ => h2⟩
theorem de_if {p : Prop} [Decidable p] {P Q : Prop} (h0 : decide p = true → P) (h1 : decide p = false → Q) : (p → P) ∧ (¬ p → Q) := ⟨fun h => h0 (decide_eq_true h), fun h => h1 (decide_eq_false h)⟩
theorem up_ind {H : Nat → Prop} {S : Nat} (h0 : H S) (hs : ∀ i, i < S → H (i + 1) → H i) : ∀ i, i ≤ S → H i := by
  have key : ∀ n i, S = i + n → H i := by
    intro n
    induction n with
    | zero => intro i h; rw [show i = S by omega]; exact h0
    | succ n ih => intro i h; exact hs i (by omega) (ih (i + 1) (by omega))
  exact fun i h => key (S - i) i (by omega)
def sm (f : Nat → Int32) : Nat → Int32
  | 0 => 0
  | i + 1 => sm f i + f i
theorem sm_congr {f g : Nat → Int32} : ∀ {n : Nat}, (∀ i, i < n → f i = g i) → sm f n = sm g n := by
  intro n
  induction n with
  | zero => intro _; rfl
  | succ n ih => intro h; rw [sm, sm, ih (fun i hi => h i (by omega)), h n (by omega)]
/-- the last one that betters those before it -/
def pick (p : Nat → Bool) (better : Nat → Nat → Bool) : Nat → Option Nat
  | 0 => none
  | i + 1 => match pick p better i with
    | none => bif p i then some i else none
    | some b => bif p i && better i b then some i else some b
def enc : Option Nat → Int32
  | none => -1
  | some i => Int32.ofNat i
theorem pick_lt {p : Nat → Bool} {better : Nat → Nat → Bool} : ∀ {n b : Nat}, pick p better n = some b → b < n ∧ p b = true := by
  intro n
  induction n with
  | zero => intro b h; cases h
  | succ n ih =>
    intro b h
    rw [pick] at h
    cases hp : pick p better n with
    | none =>
      rw [hp] at h
      replace h : (bif p n then some n else none) = some b := h
      cases hq : p n with
      | false => rw [hq] at h; cases h
      | true => rw [hq] at h; cases h; exact ⟨by omega, hq⟩
    | some c =>
      rw [hp] at h
      replace h : (bif p n && better n c then some n else some c) = some b := h
      have hc := ih hp
      cases hq : p n && better n c with
      | false => rw [hq] at h; cases h; exact ⟨by omega, hc.2⟩
      | true =>
        rw [hq] at h
        cases h
        rw [Bool.and_eq_true] at hq
        exact ⟨by omega, hq.1⟩
theorem upM_upM {M : mM} {q : Nat} {a b : Nat → Int32} : upM (upM M q a) q b = upM M q b := by
  funext j
  unfold upM
  cases Nat.beq j q <;> rfl
theorem upM_self {M : mM} {q : Nat} : upM M q (M q) = M := by
  funext j
  unfold upM
  cases h : Nat.beq j q with
  | false => rfl
  | true => rw [Nat.eq_of_beq_eq_true h]; rfl
theorem upM_at {M : mM} {q : Nat} {a : Nat → Int32} : upM M q a q = a := by
  rw [upM, show Nat.beq q q = true from Nat.beq_refl q]; rfl
theorem upM_ne {M : mM} {q j : Nat} {a : Nat → Int32} (h : j ≠ q) : upM M q a j = M j := by
  rw [upM, nbf h]; rfl
theorem upM_comm {M : mM} {q r : Nat} {a b : Nat → Int32} (h : q ≠ r) : upM (upM M q a) r b = upM (upM M r b) q a := by
  funext j
  by_cases h1 : j = q
  · subst h1; rw [upM_ne h, upM_at, upM_at]
  · rw [upM_ne (q := q) h1]
    by_cases h2 : j = r
    · subst h2; rw [upM_at, upM_at]
    · rw [upM_ne h2, upM_ne h2, upM_ne h1]
theorem EvR.of {RO : List mE} {d k : Nat} {as : List Value} {G : List sh} {M M' : mM} {v : Option Value} (h : ∀ Q : mQ, Q (.inl v) G M' 0 0 → EvP RO d k as G M Q) : EvR RO d k as G M v M' := h _ ⟨rfl, rfl, rfl, rfl, rfl⟩
theorem Q_of {Q : mQ} {v v' : Option Value} {G : List sh} {M M' : mM} (hQ : Q (.inl v) G M 0 0) (hv : v' = v) (hM : M' = M) : Q (.inl v') G M' 0 0 := by
  subst hv hM
  exact hQ
theorem nar_zb {b : Bool} : narrow .boolean (.int (zb b)) = .int (zb b) := by cases b <;> rfl
