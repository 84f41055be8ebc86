/-! tokens: what they are, how the class reads them -/
def rtF (P : Nat → Bool) (n : Nat) : Nat → Nat → Nat
  | 0, p => p
  | f + 1, p => bif Nat.blt p n && P p then rtF P n f (p + 1) else p
/-- the first place from p on, up to n, where P doesn't hold -/
def rt (P : Nat → Bool) (n p : Nat) : Nat := rtF P n (n - p) p
theorem rt_step {P : Nat → Bool} {n p : Nat} (h : p < n) (hP : P p = true) : rt P n p = rt P n (p + 1) := by
  rw [rt, rt, show n - p = n - (p + 1) + 1 by omega, rtF, hP, show Nat.blt p n = true from Nat.ble_eq_true_of_le h]; rfl
theorem rt_stop {P : Nat → Bool} {n p : Nat} (h : n ≤ p ∨ P p = false) : rt P n p = p := by
  rw [rt]
  cases hf : n - p with
  | zero => rfl
  | succ f =>
    rw [rtF]
    rcases h with h | h
    · omega
    · rw [h, Bool.and_false]; rfl
theorem rt_ge {P : Nat → Bool} {n : Nat} : ∀ k p, n - p = k → p ≤ rt P n p ∧ (p ≤ n → rt P n p ≤ n) ∧ (∀ j, p ≤ j → j < rt P n p → P j = true) ∧ (rt P n p < n → P (rt P n p) = false) := by
  intro k
  induction k with
  | zero =>
    intro p hk
    rw [rt_stop (Or.inl (by omega))]
    exact ⟨Nat.le_refl _, fun h => h, fun j h1 h2 => by omega, fun h => by omega⟩
  | succ k ih =>
    intro p hk
    cases hP : P p with
    | false =>
      rw [rt_stop (Or.inr hP)]
      exact ⟨Nat.le_refl _, fun h => h, fun j h1 h2 => by omega, fun _ => hP⟩
    | true =>
      rw [rt_step (by omega) hP]
      obtain ⟨a, b, c, d⟩ := ih (p + 1) (by omega)
      refine ⟨by omega, fun _ => b (by omega), fun j h1 h2 => ?_, d⟩
      by_cases e : j = p
      · rw [e]; exact hP
      · exact c j (by omega) h2
def kd (b : Nat) : Nat := if 97 ≤ b ∧ b ≤ 122 then 1 else if 48 ≤ b ∧ b ≤ 57 then 2 else if b = 59 then 3 else 4
def blk (b : Nat) : Bool := Nat.beq b 32 || Nat.beq b 10
theorem kd_lt {b : Nat} : kd b = 1 ∨ kd b = 2 ∨ kd b = 3 ∨ kd b = 4 := by
  unfold kd
  split
  · exact Or.inl rfl
  · split
    · exact Or.inr (Or.inl rfl)
    · split
      · exact Or.inr (Or.inr (Or.inl rfl))
      · exact Or.inr (Or.inr (Or.inr rfl))
def skp (B : Nat → Nat) (n e : Nat) : Nat := rt (fun j => blk (B j)) n e
def run (B : Nat → Nat) (n k s : Nat) : Nat := rt (fun j => Nat.beq (kd (B j)) k) n s
/-- kind, start and end of the next token behind e; lr: a word or number ends at e -/
def tokK (B : Nat → Nat) (n e : Nat) (lr : Bool) : Nat := if skp B n e = n then 0 else if kd (B (skp B n e)) = 1 then (if lr && Nat.beq (skp B n e) e then 4 else 1) else if kd (B (skp B n e)) = 2 then (if lr && Nat.beq (skp B n e) e then 4 else if 3 < run B n 2 (skp B n e) - skp B n e then 4 else 2) else kd (B (skp B n e))
def tokE (B : Nat → Nat) (n e : Nat) : Nat := if skp B n e = n then n else if kd (B (skp B n e)) = 1 then run B n 1 (skp B n e) else if kd (B (skp B n e)) = 2 then run B n 2 (skp B n e) else skp B n e + 1
def nmV (B : Nat → Nat) (s : Nat) : Nat → Int32
  | 0 => 0
  | i + 1 => nmV B s i * 10 + Int32.ofNat (B (s + i)) - 48
theorem skp_le {B : Nat → Nat} {n e : Nat} (h : e ≤ n) : e ≤ skp B n e ∧ skp B n e ≤ n := by
  obtain ⟨a, b, c, d⟩ := rt_ge (P := fun j => blk (B j)) (n := n) (n - e) e rfl
  exact ⟨a, b h⟩
theorem run_le {B : Nat → Nat} {n k s : Nat} (h : s ≤ n) : s ≤ run B n k s ∧ run B n k s ≤ n := by
  obtain ⟨a, b, c, d⟩ := rt_ge (P := fun j => Nat.beq (kd (B j)) k) (n := n) (n - s) s rfl
  exact ⟨a, b h⟩
theorem run_gt {B : Nat → Nat} {n k s : Nat} (h : s < n) (hk : kd (B s) = k) : s < run B n k s := by
  have h1 : run B n k s = run B n k (s + 1) := rt_step h (by rw [hk]; exact Nat.beq_refl k)
  have := (run_le (B := B) (k := k) (show s + 1 ≤ n by omega)).1
  omega
theorem tokE_le {B : Nat → Nat} {n e : Nat} (h : e ≤ n) : e ≤ tokE B n e ∧ tokE B n e ≤ n := by
  have h1 := skp_le (B := B) h
  unfold tokE
  split
  · exact ⟨h, Nat.le_refl _⟩
  · split
    · have := run_le (B := B) (k := 1) h1.2
      omega
    · split
      · have := run_le (B := B) (k := 2) h1.2
        omega
      · omega
/-- the class's parser: its text -/
def PC (M : mM) (n : Nat) (B : Nat → Nat) : Prop := n ≤ 700 ∧ M 1 3 = Int32.ofNat n ∧ ∀ j, j < n → M 2 j &&& 255 = Int32.ofNat (B j) ∧ B j < 256
/-- only the parser's reading has moved -/
def FrT (M M' : mM) : Prop := (∀ q, q ≠ 1 → M' q = M q) ∧ ∀ j, j < 4 ∨ 8 < j → M' 1 j = M 1 j
theorem FrT.refl {M : mM} : FrT M M := ⟨fun _ _ => rfl, fun _ _ => rfl⟩
theorem FrT.trans {M M' M'' : mM} (h : FrT M M') (h' : FrT M' M'') : FrT M M'' := ⟨fun q a => (h'.1 q a).trans (h.1 q a), fun j a => (h'.2 j a).trans (h.2 j a)⟩
theorem FrT.up {M : mM} {f : Nat → Int32} (h : ∀ j, j < 4 ∨ 8 < j → f j = M 1 j) : FrT M (upM M 1 f) := ⟨fun q a => upM_ne a, fun j a => by rw [upM_at]; exact h j a⟩
theorem FrT.P {M M' : mM} {n : Nat} {B : Nat → Nat} (h : FrT M M') (hP : PC M n B) : PC M' n B := ⟨hP.1, by rw [h.2 3 (by omega)]; exact hP.2.1, fun j hj => by rw [h.1 2 (by decide)]; exact hP.2.2 j hj⟩
def bA (n : Nat) (B : Nat → Nat) (j : Nat) : Int32 := if j < n then Int32.ofNat (B j) else -1
theorem bA_in {n j : Nat} {B : Nat → Nat} (h : j < n) : bA n B j = Int32.ofNat (B j) := if_pos h
section TOK
variable {RO : List mE} {d n : Nat} {GG : List sh} {M : mM} {Q : mQ} {B : Nat → Nat}
theorem c_byteAt {j : Nat} (hG : pw GG) (hP : PC M n B) (hj : j < 1000) : EvR RO (d + 1) 5 [.ref 1, .int (Int32.ofNat j)] GG M (some (.int (bA n B j))) M := by
  obtain ⟨c9, r9, rfl⟩ := hG
  obtain ⟨h1, h2, h3⟩ := hP
  refine EvR.of (fun Q hQ => ?_)
  rw [bA] at hQ
  refine EvP.wp [] 60 rfl ?_
  refine nn_if rfl (by omega) ?_
  refine lt_if rfl h2 (by omega) (by omega) (fun h => ?_) (fun h => ?_)
  · rw [if_pos h, ← (h3 j h).1] at hQ
    refine lt_if (b := 700) rfl rfl (by omega) (by omega) (fun _ => ?_) (fun h9 => absurd h9 (by omega))
    refine ⟨j, rfl, by omega, ?_⟩
    exact hQ
  · rw [if_neg (by omega)] at hQ
    exact hQ
theorem c_sortOf {b : Nat} (hb : b < 256) : EvR RO (d + 1) 27 [.int (Int32.ofNat b)] GG M (some (.int (Int32.ofNat (kd b)))) M := by
  refine EvR.of (fun Q hQ => ?_)
  rw [kd] at hQ
  have low : (b < 97 ∨ 122 < b) → GoP RO d 27 [.int (Int32.ofNat b)] [] GG M 14 0 0 Q := fun h => by
    rw [if_neg (by omega)] at hQ
    have low2 : (b < 48 ∨ 57 < b) → GoP RO d 27 [.int (Int32.ofNat b)] [] GG M 28 0 0 Q := fun h2 => by
      rw [if_neg (by omega)] at hQ
      refine wp_sound [] 60 _ _ _ _ _ _ _ ?_
      refine eq_if (b := 59) rfl rfl (by omega) (by omega) (fun h3 => ?_) (fun h3 => ?_)
      · rw [if_pos h3] at hQ
        exact hQ
      · rw [if_neg h3] at hQ
        refine ⟨fun h4 => absurd h4 (i_ne_m1 (by omega)), fun _ => ?_⟩
        exact hQ
    refine wp_sound [28] 60 _ _ _ _ _ _ _ ?_
    refine lt_if (b := 48) rfl rfl (by omega) (by omega) (fun h2 => ?_) (fun h2 => ?_)
    · exact low2 (Or.inl h2)
    refine gt_if (b := 57) rfl rfl (by omega) (by omega) (fun h3 => ?_) (fun h3 => ?_)
    · exact low2 (Or.inr h3)
    · rw [if_pos (by omega)] at hQ
      exact hQ
  refine EvP.wp [14] 60 rfl ?_
  refine lt_if (b := 97) rfl rfl (by omega) (by omega) (fun h2 => ?_) (fun h2 => ?_)
  · exact low (Or.inl h2)
  refine gt_if (b := 122) rfl rfl (by omega) (by omega) (fun h3 => ?_) (fun h3 => ?_)
  · exact low (Or.inr h3)
  · rw [if_pos (by omega)] at hQ
    exact hQ
theorem c_sortE : EvR RO (d + 1) 27 [.int (-1)] GG M (some (.int 0)) M := by
  refine EvP.wp [] 60 rfl ?_
  refine ⟨fun _ => ?_, fun h => absurd (by decide) h⟩
  refine ⟨fun _ => ?_, fun h => absurd (by decide) h⟩
  refine ⟨fun h => absurd h (by decide), fun _ => ?_⟩
  refine ⟨fun _ => ?_, fun h => absurd rfl h⟩
  exact ⟨rfl, rfl, rfl, rfl, rfl⟩
/-- the kind of what stands at j, 0 behind the end -/
def kA (n : Nat) (B : Nat → Nat) (j : Nat) : Nat := if j < n then kd (B j) else 0
theorem c_sortA {j : Nat} (hP : PC M n B) : EvR RO (d + 1) 27 [.int (bA n B j)] GG M (some (.int (Int32.ofNat (kA n B j)))) M := by
  rw [bA, kA]
  by_cases h : j < n
  · rw [if_pos h, if_pos h]; exact c_sortOf (hP.2.2 j h).2
  · rw [if_neg h, if_neg h]; exact c_sortE
theorem c_skip {e : Nat} (hG : pw GG) (hP : PC M n B) (he : e ≤ n) (h4 : M 1 4 = Int32.ofNat e) : EvR RO (d + 2) 26 [.ref 1] GG M none (upM M 1 (upd (M 1) 4 (Int32.ofNat (skp B n e)))) := by
  refine EvR.of (fun Q hQ => ?_)
  have hn := hP.1
  have key : ∀ k p, n - p = k → p ≤ n → skp B n p = skp B n e → GoP RO (d + 1) 26 [.ref 1] [] GG (upM M 1 (upd (M 1) 4 (Int32.ofNat p))) 0 0 0 Q := by
    intro k
    induction k with
    | zero =>
      intro p hk hp hs
      have hpn : p = n := by omega
      have hF : FrT M (upM M 1 (upd (M 1) 4 (Int32.ofNat p))) := FrT.up (fun j hj => upd_ne (by omega))
      have hP' := hF.P hP
      have h4' : upM M 1 (upd (M 1) 4 (Int32.ofNat p)) 1 4 = Int32.ofNat p := by rw [upM_at, upd_at]
      rw [← hs, skp, rt_stop (Or.inl (by omega))] at hQ
      generalize upM M 1 (upd (M 1) 4 (Int32.ofNat p)) = M1 at *
      obtain ⟨c9, r9, rfl⟩ := hG
      refine wp_sound [0] 60 _ _ _ _ _ _ _ ?_
      refine lt_if h4' hP'.2.1 (by omega) (by omega) (fun h => absurd h (by omega)) (fun _ => ?_)
      exact hQ
    | succ k ih =>
      intro p hk hp hs
      have hF : FrT M (upM M 1 (upd (M 1) 4 (Int32.ofNat p))) := FrT.up (fun j hj => upd_ne (by omega))
      have hP' := hF.P hP
      have h4' : upM M 1 (upd (M 1) 4 (Int32.ofNat p)) 1 4 = Int32.ofNat p := by rw [upM_at, upd_at]
      have hb : ∀ d, EvR RO (d + 1) 5 [.ref 1, .int (upM M 1 (upd (M 1) 4 (Int32.ofNat p)) 1 4)] GG (upM M 1 (upd (M 1) 4 (Int32.ofNat p))) (some (.int (Int32.ofNat (B p)))) (upM M 1 (upd (M 1) 4 (Int32.ofNat p))) := fun d => by
        have h9 := c_byteAt (RO := RO) (d := d) (j := p) hG hP' (by omega)
        rw [bA_in (by omega)] at h9
        rw [h4']
        exact h9
      have hB := (hP.2.2 p (by omega)).2
      have go : blk (B p) = true → GoP RO (d + 1) 26 [.ref 1] [] GG (upM (upM M 1 (upd (M 1) 4 (Int32.ofNat p))) 1 (upd (upM M 1 (upd (M 1) 4 (Int32.ofNat p)) 1) 4 (upM M 1 (upd (M 1) 4 (Int32.ofNat p)) 1 4 + 1))) 0 0 0 Q := fun h => by
        have h9 := ih (p + 1) (by omega) (by omega) (by rw [← hs, skp, skp, rt_step (P := fun j => blk (B j)) (p := p) (by omega) h])
        rw [h4', i_inc, upM_at, upM_upM, upd_upd]
        exact h9
      have stop : blk (B p) = false → Q (.inl none) GG (upM M 1 (upd (M 1) 4 (Int32.ofNat p))) 0 0 := fun h => by
        rw [← hs, skp, rt_stop (P := fun j => blk (B j)) (p := p) (Or.inr h)] at hQ
        exact hQ
      clear ih hQ
      generalize upM M 1 (upd (M 1) 4 (Int32.ofNat p)) = M1 at *
      obtain ⟨c9, r9, rfl⟩ := hG
      refine wp_sound [0] 60 _ _ _ _ _ _ _ ?_
      refine lt_if h4' hP'.2.1 (by omega) (by omega) (fun _ => ?_) (fun h => absurd h (by omega))
      refine (hb _).use ?_
      refine eq_if (a := B p) (b := 32) rfl rfl (by omega) (by omega) (fun h1 => ?_) (fun h1 => ?_)
      · exact go (by rw [blk, h1]; rfl)
      · refine (hb _).use ?_
        refine eq_if (a := B p) (b := 10) rfl rfl (by omega) (by omega) (fun h2 => ?_) (fun h2 => ?_)
        · exact go (by rw [blk, h2]; rfl)
        · exact stop (by rw [blk, nbf h1, nbf h2]; rfl)
  have k0 := key (n - e) e rfl he rfl
  rw [← h4, show upd (M 1) 4 (M 1 4) = M 1 by
    funext j
    by_cases hj : j = 4
    · rw [hj, upd_at]
    · rw [upd_ne hj], upM_self] at k0
  obtain ⟨c9, r9, rfl⟩ := hG
  refine EvP.wp [0] 0 rfl ?_
  exact k0
theorem c_pass {s k : Nat} (hG : pw GG) (hP : PC M n B) (hs : s ≤ n) (h4 : M 1 4 = Int32.ofNat s) (h6 : M 1 6 = Int32.ofNat k) (hk : k = 1 ∨ k = 2) : EvR RO (d + 2) 25 [.ref 1] GG M none (upM M 1 (upd (upd (M 1) 7 (if k = 2 then nmV B s (run B n k s - s) else 0)) 4 (Int32.ofNat (run B n k s)))) := by
  refine EvR.of (fun Q hQ => ?_)
  have hn := hP.1
  have key : ∀ i p, n - p = i → s ≤ p → p ≤ n → run B n k p = run B n k s → GoP RO (d + 1) 25 [.ref 1] [] GG (upM M 1 (upd (upd (M 1) 7 (if k = 2 then nmV B s (p - s) else 0)) 4 (Int32.ofNat p))) 5 0 0 Q := by
    intro i
    induction i with
    | zero =>
      intro p hi hsp hp hr
      have hF : FrT M (upM M 1 (upd (upd (M 1) 7 (if k = 2 then nmV B s (p - s) else 0)) 4 (Int32.ofNat p))) := FrT.up (fun j hj => by rw [upd_ne (by omega), upd_ne (by omega)])
      have hP' := hF.P hP
      have h4' : upM M 1 (upd (upd (M 1) 7 (if k = 2 then nmV B s (p - s) else 0)) 4 (Int32.ofNat p)) 1 4 = Int32.ofNat p := by rw [upM_at, upd_at]
      rw [← hr, run, rt_stop (Or.inl (by omega))] at hQ
      generalize upM M 1 (upd (upd (M 1) 7 (if k = 2 then nmV B s (p - s) else 0)) 4 (Int32.ofNat p)) = M1 at *
      obtain ⟨c9, r9, rfl⟩ := hG
      refine wp_sound [5] 60 _ _ _ _ _ _ _ ?_
      refine lt_if h4' hP'.2.1 (by omega) (by omega) (fun h => absurd h (by omega)) (fun _ => ?_)
      exact hQ
    | succ i ih =>
      intro p hi hsp hp hr
      have hF : FrT M (upM M 1 (upd (upd (M 1) 7 (if k = 2 then nmV B s (p - s) else 0)) 4 (Int32.ofNat p))) := FrT.up (fun j hj => by rw [upd_ne (by omega), upd_ne (by omega)])
      have hP' := hF.P hP
      have h4' : upM M 1 (upd (upd (M 1) 7 (if k = 2 then nmV B s (p - s) else 0)) 4 (Int32.ofNat p)) 1 4 = Int32.ofNat p := by rw [upM_at, upd_at]
      have h6' : upM M 1 (upd (upd (M 1) 7 (if k = 2 then nmV B s (p - s) else 0)) 4 (Int32.ofNat p)) 1 6 = Int32.ofNat k := by rw [upM_at, upd_ne (by decide), upd_ne (by decide)]; exact h6
      have h7' : upM M 1 (upd (upd (M 1) 7 (if k = 2 then nmV B s (p - s) else 0)) 4 (Int32.ofNat p)) 1 7 = if k = 2 then nmV B s (p - s) else 0 := by rw [upM_at, upd_ne (by decide), upd_at]
      have hb : ∀ d, EvR RO (d + 1) 5 [.ref 1, .int (upM M 1 (upd (upd (M 1) 7 (if k = 2 then nmV B s (p - s) else 0)) 4 (Int32.ofNat p)) 1 4)] GG (upM M 1 (upd (upd (M 1) 7 (if k = 2 then nmV B s (p - s) else 0)) 4 (Int32.ofNat p))) (some (.int (Int32.ofNat (B p)))) (upM M 1 (upd (upd (M 1) 7 (if k = 2 then nmV B s (p - s) else 0)) 4 (Int32.ofNat p))) := fun d => by
        have h9 := c_byteAt (RO := RO) (d := d) (j := p) hG hP' (by omega)
        rw [bA_in (by omega)] at h9
        rw [h4']
        exact h9
      have hB := (hP.2.2 p (by omega)).2
      have hso := fun d M' => c_sortOf (RO := RO) (d := d) (GG := GG) (M := M') hB
      have hkd := kd_lt (b := B p)
      have go : kd (B p) = k → ∀ x, x = (if k = 2 then nmV B s (p + 1 - s) else 0) → GoP RO (d + 1) 25 [.ref 1] [] GG (upM M 1 (upd (upd (upd (upd (M 1) 7 (if k = 2 then nmV B s (p - s) else 0)) 4 (Int32.ofNat p)) 7 x) 4 (Int32.ofNat (p + 1)))) 5 0 0 Q := fun h x hx => by
        have h9 := ih (p + 1) (by omega) (by omega) (by omega) (by rw [← hr, run, run, rt_step (P := fun j => Nat.beq (kd (B j)) k) (p := p) (by omega) (by rw [h]; exact Nat.beq_refl k)])
        rw [← hx] at h9
        refine GoP.eq2 h9 rfl ?_
        congr 1
        funext j
        by_cases e4 : j = 4
        · rw [e4, upd_at, upd_at]
        · rw [upd_ne e4, upd_ne e4]
          by_cases e7 : j = 7
          · rw [e7, upd_at, upd_at]
          · rw [upd_ne e7, upd_ne e4, upd_ne e7, upd_ne e7]
      have stop : ¬ kd (B p) = k → Q (.inl none) GG (upM M 1 (upd (upd (M 1) 7 (if k = 2 then nmV B s (p - s) else 0)) 4 (Int32.ofNat p))) 0 0 := fun h => by
        rw [← hr, run, rt_stop (P := fun j => Nat.beq (kd (B j)) k) (p := p) (Or.inr (nbf h))] at hQ
        exact hQ
      have hnum : (if k = 2 then nmV B s (p + 1 - s) else (0 : Int32)) = if k = 2 then nmV B s (p - s) * 10 + Int32.ofNat (B p) - 48 else 0 := by
        rw [show p + 1 - s = p - s + 1 by omega, nmV, show s + (p - s) = p by omega]
      have hM1 : ∀ x y : Int32, upM (upM (upM M 1 (upd (upd (M 1) 7 (if k = 2 then nmV B s (p - s) else 0)) 4 (Int32.ofNat p))) 1 (upd (upM M 1 (upd (upd (M 1) 7 (if k = 2 then nmV B s (p - s) else 0)) 4 (Int32.ofNat p)) 1) 7 x)) 1 (upd (upd (upM M 1 (upd (upd (M 1) 7 (if k = 2 then nmV B s (p - s) else 0)) 4 (Int32.ofNat p)) 1) 7 x) 4 y) = upM M 1 (upd (upd (upd (upd (M 1) 7 (if k = 2 then nmV B s (p - s) else 0)) 4 (Int32.ofNat p)) 7 x) 4 y) := fun x y => by
        simp only [upM_at, upM_upM]
      clear ih hQ
      generalize hMM : upM M 1 (upd (upd (M 1) 7 (if k = 2 then nmV B s (p - s) else 0)) 4 (Int32.ofNat p)) = M1 at *
      obtain ⟨c9, r9, rfl⟩ := hG
      refine wp_sound [5] 60 _ _ _ _ _ _ _ ?_
      refine lt_if h4' hP'.2.1 (by omega) (by omega) (fun _ => ?_) (fun h => absurd h (by omega))
      refine (hb _).use ?_
      refine (hso _ _).use ?_
      refine eq_if rfl h6' (by omega) (by omega) (fun h1 => ?_) (fun h1 => ?_)
      · have g1 := go h1
        refine eq_if (b := 2) h6' rfl (by omega) (by omega) (fun h2 => ?_) (fun h2 => ?_)
        · refine (hb _).use ?_
          refine GoP.eq2 (g1 (M1 1 7 * 10 + Int32.ofNat (B p) - 48) (by rw [hnum, if_pos h2, h7', if_pos h2])) rfl ?_
          rw [← hM1, ← i_inc, ← h4']; rfl
        · refine GoP.eq2 (g1 0 (by rw [hnum, if_neg h2])) rfl ?_
          rw [← hM1, ← i_inc, ← h4']; rfl
      · exact stop h1
  have k0 := key (n - s) s rfl (Nat.le_refl _) hs rfl
  rw [Nat.sub_self, show (if k = 2 then nmV B s 0 else (0 : Int32)) = 0 by split <;> rfl] at k0
  have h49 : upd (upd (M 1) 7 0) 4 (Int32.ofNat s) = upd (M 1) 7 0 := by
    funext j
    by_cases hj : j = 4
    · rw [hj, upd_at, upd_ne (by decide)]; exact h4.symm
    · rw [upd_ne hj]
  rw [h49] at k0
  obtain ⟨c9, r9, rfl⟩ := hG
  refine EvP.wp [5] 60 rfl ?_
  exact k0
end TOK
