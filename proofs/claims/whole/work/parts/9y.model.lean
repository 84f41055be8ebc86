/-! the reference's constructor -/
section FILL
variable {RO : List mE} {d k c s pe n q : Nat} {L st : List Value} {G : List sh} {Q : mQ}
theorem go_push {o pc nx : Nat} {x : List Nat} {v : Value} {M : mM} (ho : o = 17 ∨ o = 18 ∨ o = 19) (hcd : cd k pc = some (0, o, nx, x, v)) (h : GoP RO d k L (v :: st) G M nx c s Q) : GoP RO d k L st G M pc c s Q := by
  rcases ho with rfl | rfl | rfl
  · exact GoP.step 0 hcd (mstep0 (q := (ck_iconst, sf_iconst)) rfl rfl) h
  · exact GoP.step 0 hcd (mstep0 (q := (ck_bipush, sf_bipush)) rfl rfl) h
  · exact GoP.step 0 hcd (mstep0 (q := (ck_sipush, sf_sipush)) rfl rfl) h
theorem go_dup {pc nx : Nat} {x : List Nat} {v w : Value} {M : mM} (hcd : cd k pc = some (0, 23, nx, x, v)) (hw : w.category = 1) (h : GoP RO d k L (w :: w :: st) G M nx c s Q) : GoP RO d k L (w :: st) G M pc c s Q := by
  refine wst_sound (K := fun L' st' G' M' pc' c' s' => GoP RO d k L' st' G' M' pc' c' s' Q) hcd ?_ (fun _ _ _ _ _ _ _ h => h)
  cases w <;> first | exact h | (cases hw)
theorem go_iast {pc nx j : Nat} {x : List Nat} {v : Value} {y : Int32} {M : mM} (hcd : cd k pc = some (2, 10, nx, x, v)) (hq : q < 1000000) (hg : G[q]? = some (.inl (1, n))) (hn : n ≤ 1000000) (hj : j < n) (h : GoP RO d k L st G (upM M q (upd (M q) j y)) nx c s Q) : GoP RO d k L (.int y :: .int (Int32.ofNat j) :: .ref q :: st) G M pc c s Q := by
  refine wst_sound (K := fun L' st' G' M' pc' c' s' => GoP RO d k L' st' G' M' pc' c' s' Q) hcd ?_ (fun _ _ _ _ _ _ _ h => h)
  show (bif Nat.blt q 1000000 then (match G[q]? with
      | some (.inl (1, n)) => bif Nat.ble n 1000000 then (∃ j' : Nat, Int32.ofNat j = Int32.ofNat j' ∧ j' < n ∧ GoP RO d k L st G (upM M q (upd (M q) j' y)) nx c s Q) else False
      | _ => False) else False)
  rw [show Nat.blt q 1000000 = true from Nat.ble_eq_true_of_le hq, hg]
  show (bif Nat.ble n 1000000 then (∃ j' : Nat, Int32.ofNat j = Int32.ofNat j' ∧ j' < n ∧ GoP RO d k L st G (upM M q (upd (M q) j' y)) nx c s Q) else False)
  rw [Nat.ble_eq_true_of_le hn]
  exact ⟨j, rfl, hj, h⟩
/-- a row of numbers, written one by one -/
def pushOk (o : Nat) : Bool := Nat.beq o 17 || Nat.beq o 18 || Nat.beq o 19
def fillChk (k n pe : Nat) : List (Nat × Int32) → Nat → Bool
  | [], pc => Nat.beq pc pe
  | (j, y) :: l, pc => match cd k pc with
    | some (0, 23, p1, _, _) => (match cd k p1 with
      | some (0, o1, p2, _, .int i1) => (match cd k p2 with
        | some (0, o2, p3, _, .int i2) => (match cd k p3 with
          | some (2, 10, p4, _, _) => pushOk o1 && pushOk o2 && decide (i1 = Int32.ofNat j) && decide (i2 = y) && Nat.blt j n && fillChk k n pe l p4
          | _ => false)
        | _ => false)
      | _ => false)
    | _ => false
def fillF (f : Nat → Int32) : List (Nat × Int32) → Nat → Int32
  | [] => f
  | (j, y) :: l => fillF (upd f j y) l
theorem pushOk_or {o : Nat} (h : pushOk o = true) : o = 17 ∨ o = 18 ∨ o = 19 := by
  unfold pushOk at h
  rw [Bool.or_eq_true, Bool.or_eq_true] at h
  rcases h with (h | h) | h
  · exact Or.inl (Nat.eq_of_beq_eq_true h)
  · exact Or.inr (Or.inl (Nat.eq_of_beq_eq_true h))
  · exact Or.inr (Or.inr (Nat.eq_of_beq_eq_true h))
theorem go_fill (hq : q < 1000000) (hg : G[q]? = some (.inl (1, n))) (hn : n ≤ 1000000) : ∀ (l : List (Nat × Int32)) (pc : Nat) (M : mM), fillChk k n pe l pc = true → GoP RO d k L (.ref q :: st) G (upM M q (fillF (M q) l)) pe c s Q → GoP RO d k L (.ref q :: st) G M pc c s Q := by
  intro l
  induction l with
  | nil =>
    intro pc M hc h
    cases Nat.eq_of_beq_eq_true hc
    rw [fillF, upM_self] at h
    exact h
  | cons e l ih =>
    intro pc M hc h
    obtain ⟨j, y⟩ := e
    unfold fillChk at hc
    split at hc
    · rename_i p1 x1 v1 h1
      split at hc
      · rename_i o1 p2 x2 i1 h2
        split at hc
        · rename_i o2 p3 x3 i2 h3
          split at hc
          · rename_i p4 x4 v4 h4
            simp only [Bool.and_eq_true, decide_eq_true_eq] at hc
            obtain ⟨⟨⟨⟨⟨a1, a2⟩, rfl⟩, rfl⟩, a5⟩, a6⟩ := hc
            refine go_dup h1 rfl ?_
            refine go_push (pushOk_or a1) h2 ?_
            refine go_push (pushOk_or a2) h3 ?_
            refine go_iast h4 hq hg hn (Nat.le_of_ble_eq_true a5) ?_
            refine ih p4 _ a6 ?_
            rw [upM_at, upM_upM]
            exact h
          · cases hc
        · cases hc
      · cases hc
    · cases hc
end FILL
def keyP : List (Nat × Int32) := [(0, 116), (1, 114), (2, 97), (3, 105), (4, 110), (5, 109), (6, 117), (7, 108), (8, 101), (9, 0), (10, 115), (11, 97), (12, 99), (13, 107), (14, 0), (15, 114), (16, 111), (17, 97), (18, 100), (19, 0), (20, 102), (21, 111), (22, 114), (23, 100), (24, 0), (25, 99), (26, 97), (27, 109), (28, 112), (29, 0), (30, 112), (31, 97), (32, 99), (33, 107), (34, 0), (35, 116), (36, 114), (37, 105), (38, 112), (39, 0), (40, 114), (41, 101), (42, 115), (43, 116), (44, 0), (45, 103), (46, 114), (47, 97), (48, 105), (49, 110), (50, 99), (51, 108), (52, 111), (53, 116), (54, 104), (55, 105), (56, 114), (57, 111), (58, 110), (59, 0), (60, 103), (61, 108), (62, 97), (63, 115), (64, 115), (65, 108), (66, 101), (67, 102), (68, 116), (69, 0), (70, 114), (71, 105), (72, 103), (73, 104), (74, 116), (75, 106), (76, 101), (77, 110), (78, 0), (79, 0), (80, 109), (81, 111), (82, 108), (83, 108), (84, 0)]
theorem keyP_ok : ((List.range 85).all (fun j => decide (fillF (fun _ => 0) keyP j = keyF j))) = true := by decide +kernel
def gM : List sh := [.inr (.inl (8, [.ref 12, .ref 40, .ref 49, .ref 21, .ref 141, .ref 1, .ref 142, .ref 144])), .inr (.inl (5, [.ref 2, .ref 3, .int 0, .int 0, .int 0, .int 0, .int 0, .int 0, .int 0, .int 0, .int 0])), .inl (0, 700), .inr (.inl (7, [.ref 4, .ref 6, .ref 8, .ref 10, .ref 11, .int 0, .int 0])), .inr (.inl (6, [.int 0, .ref 5, .int 0])), .inl (1, 128), .inr (.inl (6, [.int 0, .ref 7, .int 0])), .inl (1, 54), .inr (.inl (6, [.int 0, .ref 9, .int 0])), .inl (1, 16), .inl (1, 3), .inl (1, 7), .inr (.inl (7, [.ref 13, .ref 15, .ref 17, .ref 19, .ref 20, .int 0, .int 0])), .inr (.inl (6, [.int 0, .ref 14, .int 0])), .inl (1, 128), .inr (.inl (6, [.int 0, .ref 16, .int 0])), .inl (1, 54), .inr (.inl (6, [.int 0, .ref 18, .int 0])), .inl (1, 16), .inl (1, 3), .inl (1, 7), .inr (.inr (.inl (3, 2, .inr (.inr (.inr (.inr (xrefs [22, 31]))))))), .inr (.inl (7, [.ref 23, .ref 25, .ref 27, .ref 29, .ref 30, .int 0, .int 0])), .inr (.inl (6, [.int 0, .ref 24, .int 0])), .inl (1, 128), .inr (.inl (6, [.int 0, .ref 26, .int 0])), .inl (1, 54), .inr (.inl (6, [.int 0, .ref 28, .int 0])), .inl (1, 16), .inl (1, 3), .inl (1, 7), .inr (.inl (7, [.ref 32, .ref 34, .ref 36, .ref 38, .ref 39, .int 0, .int 0])), .inr (.inl (6, [.int 0, .ref 33, .int 0])), .inl (1, 128), .inr (.inl (6, [.int 0, .ref 35, .int 0])), .inl (1, 54), .inr (.inl (6, [.int 0, .ref 37, .int 0])), .inl (1, 16), .inl (1, 3), .inl (1, 7), .inr (.inl (7, [.ref 41, .ref 43, .ref 45, .ref 47, .ref 48, .int 0, .int 0])), .inr (.inl (6, [.int 0, .ref 42, .int 0])), .inl (1, 128), .inr (.inl (6, [.int 0, .ref 44, .int 0])), .inl (1, 54), .inr (.inl (6, [.int 0, .ref 46, .int 0])), .inl (1, 16), .inl (1, 3), .inl (1, 7), .inr (.inl (4, [.ref 50, .int 0, .int 0])), .inr (.inr (.inl (3, 10, .inr (.inr (.inr (.inr (xrefs [51, 60, 69, 78, 87, 96, 105, 114, 123, 132]))))))), .inr (.inl (7, [.ref 52, .ref 54, .ref 56, .ref 58, .ref 59, .int 0, .int 0])), .inr (.inl (6, [.int 0, .ref 53, .int 0])), .inl (1, 128), .inr (.inl (6, [.int 0, .ref 55, .int 0])), .inl (1, 54), .inr (.inl (6, [.int 0, .ref 57, .int 0])), .inl (1, 16), .inl (1, 3), .inl (1, 7), .inr (.inl (7, [.ref 61, .ref 63, .ref 65, .ref 67, .ref 68, .int 0, .int 0])), .inr (.inl (6, [.int 0, .ref 62, .int 0])), .inl (1, 128), .inr (.inl (6, [.int 0, .ref 64, .int 0])), .inl (1, 54), .inr (.inl (6, [.int 0, .ref 66, .int 0])), .inl (1, 16), .inl (1, 3), .inl (1, 7), .inr (.inl (7, [.ref 70, .ref 72, .ref 74, .ref 76, .ref 77, .int 0, .int 0])), .inr (.inl (6, [.int 0, .ref 71, .int 0])), .inl (1, 128), .inr (.inl (6, [.int 0, .ref 73, .int 0])), .inl (1, 54), .inr (.inl (6, [.int 0, .ref 75, .int 0])), .inl (1, 16), .inl (1, 3), .inl (1, 7), .inr (.inl (7, [.ref 79, .ref 81, .ref 83, .ref 85, .ref 86, .int 0, .int 0])), .inr (.inl (6, [.int 0, .ref 80, .int 0])), .inl (1, 128), .inr (.inl (6, [.int 0, .ref 82, .int 0])), .inl (1, 54), .inr (.inl (6, [.int 0, .ref 84, .int 0])), .inl (1, 16), .inl (1, 3), .inl (1, 7), .inr (.inl (7, [.ref 88, .ref 90, .ref 92, .ref 94, .ref 95, .int 0, .int 0])), .inr (.inl (6, [.int 0, .ref 89, .int 0])), .inl (1, 128), .inr (.inl (6, [.int 0, .ref 91, .int 0])), .inl (1, 54), .inr (.inl (6, [.int 0, .ref 93, .int 0])), .inl (1, 16), .inl (1, 3), .inl (1, 7), .inr (.inl (7, [.ref 97, .ref 99, .ref 101, .ref 103, .ref 104, .int 0, .int 0])), .inr (.inl (6, [.int 0, .ref 98, .int 0])), .inl (1, 128), .inr (.inl (6, [.int 0, .ref 100, .int 0])), .inl (1, 54), .inr (.inl (6, [.int 0, .ref 102, .int 0])), .inl (1, 16), .inl (1, 3), .inl (1, 7), .inr (.inl (7, [.ref 106, .ref 108, .ref 110, .ref 112, .ref 113, .int 0, .int 0])), .inr (.inl (6, [.int 0, .ref 107, .int 0])), .inl (1, 128), .inr (.inl (6, [.int 0, .ref 109, .int 0])), .inl (1, 54), .inr (.inl (6, [.int 0, .ref 111, .int 0])), .inl (1, 16), .inl (1, 3), .inl (1, 7), .inr (.inl (7, [.ref 115, .ref 117, .ref 119, .ref 121, .ref 122, .int 0, .int 0])), .inr (.inl (6, [.int 0, .ref 116, .int 0])), .inl (1, 128), .inr (.inl (6, [.int 0, .ref 118, .int 0])), .inl (1, 54), .inr (.inl (6, [.int 0, .ref 120, .int 0])), .inl (1, 16), .inl (1, 3), .inl (1, 7), .inr (.inl (7, [.ref 124, .ref 126, .ref 128, .ref 130, .ref 131, .int 0, .int 0])), .inr (.inl (6, [.int 0, .ref 125, .int 0])), .inl (1, 128), .inr (.inl (6, [.int 0, .ref 127, .int 0])), .inl (1, 54), .inr (.inl (6, [.int 0, .ref 129, .int 0])), .inl (1, 16), .inl (1, 3), .inl (1, 7), .inr (.inl (7, [.ref 133, .ref 135, .ref 137, .ref 139, .ref 140, .int 0, .int 0])), .inr (.inl (6, [.int 0, .ref 134, .int 0])), .inl (1, 128), .inr (.inl (6, [.int 0, .ref 136, .int 0])), .inl (1, 54), .inr (.inl (6, [.int 0, .ref 138, .int 0])), .inl (1, 16), .inl (1, 3), .inl (1, 7), .inl (2, 2), .inr (.inl (1, [.ref 143, .int 0, .int 0, .int 0])), .inl (0, 16), .inl (1, 301), .inr (.inl (9, [.ref 146, .ref 147, .ref 148, .int 0, .ref 149, .ref 150, .ref 151, .int 0, .ref 152, .int 0, .ref 153, .ref 154, .ref 155, .int 0, .ref 156, .int 0, .int 0, .int 0, .int 0, .int 0, .int 0, .int 0, .int 0, .int 0, .int 0])), .inl (1, 3), .inl (1, 3), .inl (1, 85), .inl (1, 207), .inl (1, 207), .inl (1, 2070), .inl (1, 414), .inl (1, 6), .inl (1, 301), .inl (0, 700), .inl (0, 120)]
section MOD
variable {RO : List mE} {d : Nat} {M : mM} {Q : mQ}
theorem q_m {i : Nat} {G : List sh} : EvR RO (d + 1) 183 [.int (Int32.ofNat i)] G M (some (.int (Int32.ofNat (15 + 8 * i)))) M := by
  refine EvP.wp [] 40 rfl ?_
  refine ⟨?_, rfl, rfl, rfl, rfl⟩
  rw [Int32.ofNat_add, Int32.ofNat_mul]; rfl
theorem q_s {i : Nat} {G : List sh} : EvR RO (d + 1) 211 [.int (Int32.ofNat i)] G M (some (.int (Int32.ofNat (63 + 8 * i)))) M := by
  refine EvP.wp [] 40 rfl ?_
  refine ⟨?_, rfl, rfl, rfl, rfl⟩
  rw [Int32.ofNat_add, Int32.ofNat_mul]; rfl
theorem q_t {i : Nat} {G : List sh} : EvR RO (d + 1) 220 [.int (Int32.ofNat i)] G M (some (.int (Int32.ofNat (191 + 2 * i)))) M := by
  refine EvP.wp [] 40 rfl ?_
  refine ⟨?_, rfl, rfl, rfl, rfl⟩
  rw [Int32.ofNat_add, Int32.ofNat_mul]; rfl
theorem q_packs {k : Nat} {m sd : Int32} (hk : k < 16) : EvR RO (d + 2) 192 [.ref 145, .int (Int32.ofNat k), .int m, .int sd] gM M none (upM M 149 (packN (M 149) k m sd)) := by
  refine EvP.wp [] 60 rfl ?_
  refine q_s.use ?_
  refine ⟨63 + 8 * k + 3, i_add _ 3, by omega, ?_⟩
  refine q_s.use ?_
  refine ⟨63 + 8 * k + 4, i_add _ 4, by omega, ?_⟩
  refine q_s.use ?_
  refine ⟨63 + 8 * k + 5, i_add _ 5, by omega, ?_⟩
  refine ⟨rfl, rfl, ?_, rfl, rfl⟩
  simp only [upM_at, upM_upM]; rfl
theorem q_brings {k : Nat} {kd w v : Int32} (hk : k < 16) (hN : M 149 4 = Int32.ofNat k) : EvR RO (d + 2) 142 [.ref 145, .int kd, .int w, .int v] gM M none (upM M 149 (bringsN (M 149) k kd w v)) := by
  refine EvP.wp [] 90 rfl ?_
  refine ⟨4, rfl, by omega, ?_⟩
  rw [hN]
  refine q_s.use ?_
  refine ⟨63 + 8 * k, i_add _ 0, by omega, ?_⟩
  refine ⟨63 + 8 * k + 1, i_add _ 1, by omega, ?_⟩
  refine ⟨63 + 8 * k + 2, i_add _ 2, by omega, ?_⟩
  refine ⟨63 + 8 * k + 3, i_add _ 3, by omega, ?_⟩
  refine ⟨63 + 8 * k + 4, i_add _ 4, by omega, ?_⟩
  refine ⟨63 + 8 * k + 5, i_add _ 5, by omega, ?_⟩
  refine ⟨63 + 8 * k + 6, i_add _ 6, by omega, ?_⟩
  refine ⟨63 + 8 * k + 7, i_add _ 7, by omega, ?_⟩
  refine ⟨4, rfl, by omega, ?_⟩
  refine ⟨4, rfl, by omega, ?_⟩
  refine ⟨rfl, rfl, ?_, rfl, rfl⟩
  simp only [upM_at, upM_upM]; rfl
theorem q_leads {k : Nat} {kd n : Int32} (hk : k < 8) (hN : M 149 5 = Int32.ofNat k) : EvR RO (d + 2) 176 [.ref 145, .int kd, .int n] gM M none (upM M 149 (leadsN (M 149) k kd n)) := by
  refine EvP.wp [] 90 rfl ?_
  refine ⟨5, rfl, by omega, ?_⟩
  rw [hN]
  refine q_t.use ?_
  refine ⟨191 + 2 * k, rfl, by omega, ?_⟩
  refine ⟨5, rfl, by omega, ?_⟩
  rw [show upM M 149 (upd (M 149) (191 + 2 * k) kd) 149 5 = Int32.ofNat k by rw [upM_at, upd_ne (by omega)]; exact hN]
  refine q_t.use ?_
  refine ⟨191 + 2 * k + 1, i_add _ 1, by omega, ?_⟩
  refine ⟨5, rfl, by omega, ?_⟩
  refine ⟨5, rfl, by omega, ?_⟩
  refine ⟨rfl, rfl, ?_, rfl, rfl⟩
  simp only [upM_at, upM_upM]; rfl
/-- a mule of the first train: its letters stand among the keys -/
def lets (K f : Nat → Int32) (i key : Nat) : Nat → Nat → Int32
  | 0 => f
  | j + 1 => upd (lets K f i key j) (15 + 8 * i + 2 + j) (bif Nat.blt j 5 then K (5 * key + j) else 0)
def begN (K f : Nat → Int32) (i key : Nat) (st : Int32) : Nat → Int32 := upd (lets K (upd (upd f (15 + 8 * i) st) (15 + 8 * i + 1) 0) i key 6) 3 (Int32.ofNat (i + 1))
theorem lets_3 {K f : Nat → Int32} {i key : Nat} : ∀ j, lets K f i key j 3 = f 3 := by
  intro j
  induction j with
  | zero => rfl
  | succ j ih => rw [lets, upd_ne (by omega)]; exact ih
set_option maxHeartbeats 4000000 in
theorem q_begins {i key : Nat} {st : Int32} (hi : i < 6) (hk : key < 17) (h3 : M 149 3 = Int32.ofNat i) : EvR RO (d + 2) 137 [.ref 145, .int (Int32.ofNat key), .int st] gM M none (upM M 149 (begN (M 148) (M 149) i key st)) := by
  refine EvR.of (fun Q hQ => ?_)
  refine EvP.wp [31] 60 rfl ?_
  refine ⟨3, rfl, by omega, ?_⟩
  rw [h3]
  refine q_m.use ?_
  refine ⟨15 + 8 * i, i_add _ 0, by omega, ?_⟩
  refine ⟨15 + 8 * i + 1, i_add _ 1, by omega, ?_⟩
  have key9 : ∀ n j, j + n = 6 → GoP RO (d + 1) 137 [.ref 145, .int (Int32.ofNat key), .int st, .int (Int32.ofNat (15 + 8 * i)), .int (Int32.ofNat j)] [] gM (upM M 149 (lets (M 148) (upd (upd (M 149) (15 + 8 * i) st) (15 + 8 * i + 1) 0) i key j)) 31 0 0 Q := by
    intro n
    induction n with
    | zero =>
      intro j hj
      have hj : j = 6 := by omega
      subst hj
      refine wp_sound [31] 60 _ _ _ _ _ _ _ ?_
      refine lt_if (b := 6) rfl rfl (by omega) (by omega) (fun h => absurd h (by omega)) (fun _ => ?_)
      refine ⟨3, rfl, by omega, ?_⟩
      refine ⟨3, rfl, by omega, ?_⟩
      have e9 : upM (upM M 149 (lets (M 148) (upd (upd (M 149) (15 + 8 * i) st) (15 + 8 * i + 1) 0) i key 6)) 149 (upd (upM M 149 (lets (M 148) (upd (upd (M 149) (15 + 8 * i) st) (15 + 8 * i + 1) 0) i key 6) 149) 3 (upM M 149 (lets (M 148) (upd (upd (M 149) (15 + 8 * i) st) (15 + 8 * i + 1) 0) i key 6) 149 3 + 1)) = upM M 149 (begN (M 148) (M 149) i key st) := by
        rw [upM_upM, upM_at, begN, lets_3, upd_ne (by omega), upd_ne (by omega), h3, i_inc]
      have h9 := hQ
      rw [← e9] at h9
      exact h9
    | succ n ih =>
      intro j hj
      refine wp_sound [31] 60 _ _ _ _ _ _ _ ?_
      refine lt_if (b := 6) rfl rfl (by omega) (by omega) (fun _ => ?_) (fun h => absurd h (by omega))
      have hi2 : Int32.ofNat (15 + 8 * i) + 2 + Int32.ofNat j = Int32.ofNat (15 + 8 * i + 2 + j) := by rw [show Int32.ofNat (15 + 8 * i) + 2 = Int32.ofNat (15 + 8 * i + 2) from i_add _ 2, i_add]
      have h9 := ih (j + 1) (by omega)
      rw [lets, ← i_inc] at h9
      refine lt_if (b := 5) rfl rfl (by omega) (by omega) (fun h5 => ?_) (fun h5 => ?_)
      · rw [show Nat.blt j 5 = true from Nat.ble_eq_true_of_le h5, cond_true] at h9
        refine ⟨5 * key + j, ?_, by omega, ?_⟩
        · rw [← i_add, ← i_mul]; rfl
        refine ⟨15 + 8 * i + 2 + j, hi2, by omega, ?_⟩
        rw [upM_at, upM_upM, upM_ne (by decide)]
        exact h9
      · rw [show Nat.blt j 5 = false by
          cases hb : Nat.blt j 5 with
          | false => rfl
          | true => exact absurd (Nat.le_of_ble_eq_true hb) (by omega), cond_false] at h9
        refine ⟨15 + 8 * i + 2 + j, hi2, by omega, ?_⟩
        rw [upM_at, upM_upM]
        exact h9
  have h0 := key9 6 0 rfl
  have e0 : upM (upM M 149 (upd (M 149) (15 + 8 * i) st)) 149 (upd (upM M 149 (upd (M 149) (15 + 8 * i) st) 149) (15 + 8 * i + 1) 0) = upM M 149 (lets (M 148) (upd (upd (M 149) (15 + 8 * i) st) (15 + 8 * i + 1) 0) i key 0) := by
    rw [upM_upM, upM_at]; rfl
  rw [← e0] at h0
  exact h0
theorem v_begins {M1 : mM} {f K : Nat → Int32} {i key : Nat} {st : Int32} (hK : M1 148 = K) (hi : i < 6) (hk : key < 17) (h3 : f 3 = Int32.ofNat i) : EvR RO (d + 2) 137 [.ref 145, .int (Int32.ofNat key), .int st] gM (upM M1 149 f) none (upM M1 149 (begN K f i key st)) := by
  have h := q_begins (RO := RO) (d := d) (M := upM M1 149 f) (st := st) hi hk (by rw [upM_at]; exact h3)
  rw [upM_upM, upM_at, upM_ne (by decide), hK] at h
  exact h
theorem v_brings {M1 : mM} {f : Nat → Int32} {k : Nat} {kd w v : Int32} (hk : k < 16) (h4 : f 4 = Int32.ofNat k) : EvR RO (d + 2) 142 [.ref 145, .int kd, .int w, .int v] gM (upM M1 149 f) none (upM M1 149 (bringsN f k kd w v)) := by
  have h := q_brings (RO := RO) (d := d) (M := upM M1 149 f) (kd := kd) (w := w) (v := v) hk (by rw [upM_at]; exact h4)
  rw [upM_upM, upM_at] at h
  exact h
theorem v_leads {M1 : mM} {f : Nat → Int32} {k : Nat} {kd n : Int32} (hk : k < 8) (h5 : f 5 = Int32.ofNat k) : EvR RO (d + 2) 176 [.ref 145, .int kd, .int n] gM (upM M1 149 f) none (upM M1 149 (leadsN f k kd n)) := by
  have h := q_leads (RO := RO) (d := d) (M := upM M1 149 f) (kd := kd) (n := n) hk (by rw [upM_at]; exact h5)
  rw [upM_upM, upM_at] at h
  exact h
theorem v_packs {M1 : mM} {f : Nat → Int32} {k : Nat} {m sd : Int32} (hk : k < 16) : EvR RO (d + 2) 192 [.ref 145, .int (Int32.ofNat k), .int m, .int sd] gM (upM M1 149 f) none (upM M1 149 (packN f k m sd)) := by
  have h := q_packs (RO := RO) (d := d) (M := upM M1 149 f) (m := m) (sd := sd) hk
  rw [upM_upM, upM_at] at h
  exact h
/-- the reference's part of the start -/
def ModOk (M M' : mM) : Prop := (∀ q, q < 145 → M' q = M q) ∧ (∀ j, j ≠ 17 → M' 145 j = 0) ∧ M' 145 17 = -1 ∧ I_key M' ∧ (∀ j, j < 207 → M' 149 j = nowL.getD j 0)
def now0 (K : Nat → Int32) : Nat → Int32 := packN (packN (packN (leadsN (leadsN (leadsN (bringsN (bringsN (bringsN (bringsN (bringsN (begN K (begN K (upd (upd (upd (fun _ => 0) 0 20) 1 10) 2 3) 0 15 100) 1 16 60) 0 0 30 40) 1 1 20 60) 2 2 50 30) 3 3 10 90) 4 0 25 20) 0 0 40) 1 1 5) 2 2 8) 0 0 0) 3 0 1) 1 1 0
theorem now0_ok : ((List.range 207).all (fun j => decide (now0 (fillF (fun _ => 0) keyP) j = nowL.getD j 0))) = true := by decide +kernel
set_option maxRecDepth 100000 in
set_option maxHeartbeats 4000000 in
theorem c_mod0 (h145 : M 145 = fun _ => 0) (hQ : ∀ M' : mM, ModOk M M' → Q (.inl none) gM M' 11 4116) : EvP RO (d + 3) 164 [.ref 145] (cls0 ++ [.inr (.inl (9, [.null, .null, .null, .int 0, .null, .null, .null, .int 0, .null, .int 0, .null, .null, .null, .int 0, .null, .int 0, .int 0, .int 0, .int 0, .int 0, .int 0, .int 0, .int 0, .int 0, .int 0]))]) M Q := by
  have hb : cls0.length = 145 := by decide +kernel
  have fin : ∀ M1 : mM, (∀ q, q < 145 → M1 q = M q) → M1 145 = upd (fun _ => 0) 17 (-1) → M1 146 = fillF (fun _ => 0) [(0, 99), (1, 50), (2, 50)] → M1 147 = fillF (fun _ => 0) [(0, 99), (1, 9), (2, 24)] → M1 148 = fillF (fun _ => 0) keyP → M1 149 = (fun _ => 0) → GoP RO (d + 2) 164 [.ref 145] [] gM M1 622 11 4116 Q := by
    intro M1 h0 h1 h6 h7 h8 h9
    have step : GoP RO (d + 2) 164 [.ref 145] [] gM (upM M1 149 (upd (upd (upd (M1 149) 0 20) 1 10) 2 3)) 645 11 4116 Q := by
      rw [h9]
      refine wp_sound [] 120 _ _ _ _ _ _ _ ?_
      refine (v_begins (i := 0) (key := 15) h8 (by decide) (by decide) (by decide +kernel)).use ?_
      refine (v_begins (i := 1) (key := 16) h8 (by decide) (by decide) (by decide +kernel)).use ?_
      refine (v_brings (k := 0) (by decide) (by decide +kernel)).use ?_
      refine (v_brings (k := 1) (by decide) (by decide +kernel)).use ?_
      refine (v_brings (k := 2) (by decide) (by decide +kernel)).use ?_
      refine (v_brings (k := 3) (by decide) (by decide +kernel)).use ?_
      refine (v_brings (k := 4) (by decide) (by decide +kernel)).use ?_
      refine (v_leads (k := 0) (by decide) (by decide +kernel)).use ?_
      refine (v_leads (k := 1) (by decide) (by decide +kernel)).use ?_
      refine (v_leads (k := 2) (by decide) (by decide +kernel)).use ?_
      refine (v_packs (k := 0) (by decide)).use ?_
      refine (v_packs (k := 3) (by decide)).use ?_
      refine (v_packs (k := 1) (by decide)).use ?_
      refine hQ (upM M1 149 (now0 (fillF (fun _ => 0) keyP))) ⟨fun q hq => ?_, fun j hj => ?_, ?_, ⟨fun j hj => ?_, ⟨?_, ?_, ?_⟩, ?_, ?_, ?_⟩, fun j hj => ?_⟩
      · rw [upM_ne (by omega)]; exact h0 q hq
      · rw [upM_ne (by decide), h1, upd_ne hj]
      · rw [upM_ne (by decide), h1, upd_at]
      · rw [upM_ne (by decide), h8]
        exact of_decide_eq_true (List.all_eq_true.mp keyP_ok j (List.mem_range.mpr hj))
      · rw [upM_ne (by decide), h6]; decide +kernel
      · rw [upM_ne (by decide), h6]; decide +kernel
      · rw [upM_ne (by decide), h6]; decide +kernel
      · rw [upM_ne (by decide), h7]; decide +kernel
      · rw [upM_ne (by decide), h7]; decide +kernel
      · rw [upM_ne (by decide), h7]; decide +kernel
      · rw [upM_at]
        exact of_decide_eq_true (List.all_eq_true.mp now0_ok j (List.mem_range.mpr hj))
    refine wp_sound [645] 40 _ _ _ _ _ _ _ ?_
    refine ⟨0, rfl, by decide, ?_⟩
    refine ⟨1, rfl, by decide, ?_⟩
    refine ⟨2, rfl, by decide, ?_⟩
    have e : upM (upM (upM M1 149 (upd (M1 149) 0 20)) 149 (upd (upM M1 149 (upd (M1 149) 0 20) 149) 1 10)) 149 (upd (upM (upM M1 149 (upd (M1 149) 0 20)) 149 (upd (upM M1 149 (upd (M1 149) 0 20) 149) 1 10) 149) 2 3) = upM M1 149 (upd (upd (upd (M1 149) 0 20) 1 10) 2 3) := by
      simp only [upM_at, upM_upM]
    rw [← e] at step
    exact step
  refine EvP.of rfl ?_
  refine wp_sound [6] 40 _ _ _ _ _ _ _ ?_
  refine g_arr (m := 3) (n := 146) (G2 := cls0 ++ [.inr (.inl (9, [.null, .null, .null, .int 0, .null, .null, .null, .int 0, .null, .int 0, .null, .null, .null, .int 0, .null, .int 0, .int 0, .int 0, .int 0, .int 0, .int 0, .int 0, .int 0, .int 0, .int 0])), .inl (1, 3)]) rfl (by decide) rfl (by decide) (by simp [hb]) (by decide) (by rw [List.append_assoc]; rfl) ?_
  refine go_fill (q := 146) (n := 3) (pe := 23) (by decide) (p_at (i := 1) hb) (by decide) [(0, 99), (1, 50), (2, 50)] _ _ (by decide +kernel) ?_
  refine g_putR (G2 := cls0 ++ [.inr (.inl (9, [.ref 146, .null, .null, .int 0, .null, .null, .null, .int 0, .null, .int 0, .null, .null, .null, .int 0, .null, .int 0, .int 0, .int 0, .int 0, .int 0, .int 0, .int 0, .int 0, .int 0, .int 0])), .inl (1, 3)]) (Or.inr (Or.inr rfl)) rfl (by decide) rfl (p_at (i := 0) hb) (by decide) (fun a e => by cases e) (p_set (i := 0) hb) ?_
  refine wp_sound [28] 40 _ _ _ _ _ _ _ ?_
  refine g_arr (m := 3) (n := 147) (G2 := cls0 ++ [.inr (.inl (9, [.ref 146, .null, .null, .int 0, .null, .null, .null, .int 0, .null, .int 0, .null, .null, .null, .int 0, .null, .int 0, .int 0, .int 0, .int 0, .int 0, .int 0, .int 0, .int 0, .int 0, .int 0])), .inl (1, 3), .inl (1, 3)]) rfl (by decide) rfl (by decide) (by simp [hb]) (by decide) (by rw [List.append_assoc]; rfl) ?_
  refine go_fill (q := 147) (n := 3) (pe := 45) (by decide) (p_at (i := 2) hb) (by decide) [(0, 99), (1, 9), (2, 24)] _ _ (by decide +kernel) ?_
  refine g_putR (G2 := cls0 ++ [.inr (.inl (9, [.ref 146, .ref 147, .null, .int 0, .null, .null, .null, .int 0, .null, .int 0, .null, .null, .null, .int 0, .null, .int 0, .int 0, .int 0, .int 0, .int 0, .int 0, .int 0, .int 0, .int 0, .int 0])), .inl (1, 3), .inl (1, 3)]) (Or.inr (Or.inr rfl)) rfl (by decide) rfl (p_at (i := 0) hb) (by decide) (fun a e => by cases e) (p_set (i := 0) hb) ?_
  refine wp_sound [51] 40 _ _ _ _ _ _ _ ?_
  refine g_arr (m := 85) (n := 148) (G2 := cls0 ++ [.inr (.inl (9, [.ref 146, .ref 147, .null, .int 0, .null, .null, .null, .int 0, .null, .int 0, .null, .null, .null, .int 0, .null, .int 0, .int 0, .int 0, .int 0, .int 0, .int 0, .int 0, .int 0, .int 0, .int 0])), .inl (1, 3), .inl (1, 3), .inl (1, 85)]) rfl (by decide) rfl (by decide) (by simp [hb]) (by decide) (by rw [List.append_assoc]; rfl) ?_
  refine go_fill (q := 148) (n := 85) (pe := 544) (by decide) (p_at (i := 3) hb) (by decide) keyP _ _ (by decide +kernel) ?_
  refine g_putR (G2 := cls0 ++ [.inr (.inl (9, [.ref 146, .ref 147, .ref 148, .int 0, .null, .null, .null, .int 0, .null, .int 0, .null, .null, .null, .int 0, .null, .int 0, .int 0, .int 0, .int 0, .int 0, .int 0, .int 0, .int 0, .int 0, .int 0])), .inl (1, 3), .inl (1, 3), .inl (1, 85)]) (Or.inr (Or.inr rfl)) rfl (by decide) rfl (p_at (i := 0) hb) (by decide) (fun a e => by cases e) (p_set (i := 0) hb) ?_
  refine wp_sound [551] 40 _ _ _ _ _ _ _ ?_
  refine g_arr (m := 207) (n := 149) (G2 := cls0 ++ [.inr (.inl (9, [.ref 146, .ref 147, .ref 148, .int 0, .null, .null, .null, .int 0, .null, .int 0, .null, .null, .null, .int 0, .null, .int 0, .int 0, .int 0, .int 0, .int 0, .int 0, .int 0, .int 0, .int 0, .int 0])), .inl (1, 3), .inl (1, 3), .inl (1, 85), .inl (1, 207)]) rfl (by decide) rfl (by decide) (by simp [hb]) (by decide) (by rw [List.append_assoc]; rfl) ?_
  refine g_putR (G2 := cls0 ++ [.inr (.inl (9, [.ref 146, .ref 147, .ref 148, .int 0, .ref 149, .null, .null, .int 0, .null, .int 0, .null, .null, .null, .int 0, .null, .int 0, .int 0, .int 0, .int 0, .int 0, .int 0, .int 0, .int 0, .int 0, .int 0])), .inl (1, 3), .inl (1, 3), .inl (1, 85), .inl (1, 207)]) (Or.inr (Or.inr rfl)) rfl (by decide) rfl (p_at (i := 0) hb) (by decide) (fun a e => by cases e) (p_set (i := 0) hb) ?_
  refine wp_sound [560] 40 _ _ _ _ _ _ _ ?_
  refine g_arr (m := 207) (n := 150) (G2 := cls0 ++ [.inr (.inl (9, [.ref 146, .ref 147, .ref 148, .int 0, .ref 149, .null, .null, .int 0, .null, .int 0, .null, .null, .null, .int 0, .null, .int 0, .int 0, .int 0, .int 0, .int 0, .int 0, .int 0, .int 0, .int 0, .int 0])), .inl (1, 3), .inl (1, 3), .inl (1, 85), .inl (1, 207), .inl (1, 207)]) rfl (by decide) rfl (by decide) (by simp [hb]) (by decide) (by rw [List.append_assoc]; rfl) ?_
  refine g_putR (G2 := cls0 ++ [.inr (.inl (9, [.ref 146, .ref 147, .ref 148, .int 0, .ref 149, .ref 150, .null, .int 0, .null, .int 0, .null, .null, .null, .int 0, .null, .int 0, .int 0, .int 0, .int 0, .int 0, .int 0, .int 0, .int 0, .int 0, .int 0])), .inl (1, 3), .inl (1, 3), .inl (1, 85), .inl (1, 207), .inl (1, 207)]) (Or.inr (Or.inr rfl)) rfl (by decide) rfl (p_at (i := 0) hb) (by decide) (fun a e => by cases e) (p_set (i := 0) hb) ?_
  refine wp_sound [569] 40 _ _ _ _ _ _ _ ?_
  refine g_arr (m := 2070) (n := 151) (G2 := cls0 ++ [.inr (.inl (9, [.ref 146, .ref 147, .ref 148, .int 0, .ref 149, .ref 150, .null, .int 0, .null, .int 0, .null, .null, .null, .int 0, .null, .int 0, .int 0, .int 0, .int 0, .int 0, .int 0, .int 0, .int 0, .int 0, .int 0])), .inl (1, 3), .inl (1, 3), .inl (1, 85), .inl (1, 207), .inl (1, 207), .inl (1, 2070)]) rfl (by decide) rfl (by decide) (by simp [hb]) (by decide) (by rw [List.append_assoc]; rfl) ?_
  refine g_putR (G2 := cls0 ++ [.inr (.inl (9, [.ref 146, .ref 147, .ref 148, .int 0, .ref 149, .ref 150, .ref 151, .int 0, .null, .int 0, .null, .null, .null, .int 0, .null, .int 0, .int 0, .int 0, .int 0, .int 0, .int 0, .int 0, .int 0, .int 0, .int 0])), .inl (1, 3), .inl (1, 3), .inl (1, 85), .inl (1, 207), .inl (1, 207), .inl (1, 2070)]) (Or.inr (Or.inr rfl)) rfl (by decide) rfl (p_at (i := 0) hb) (by decide) (fun a e => by cases e) (p_set (i := 0) hb) ?_
  refine wp_sound [578] 40 _ _ _ _ _ _ _ ?_
  refine g_arr (m := 414) (n := 152) (G2 := cls0 ++ [.inr (.inl (9, [.ref 146, .ref 147, .ref 148, .int 0, .ref 149, .ref 150, .ref 151, .int 0, .null, .int 0, .null, .null, .null, .int 0, .null, .int 0, .int 0, .int 0, .int 0, .int 0, .int 0, .int 0, .int 0, .int 0, .int 0])), .inl (1, 3), .inl (1, 3), .inl (1, 85), .inl (1, 207), .inl (1, 207), .inl (1, 2070), .inl (1, 414)]) rfl (by decide) rfl (by decide) (by simp [hb]) (by decide) (by rw [List.append_assoc]; rfl) ?_
  refine g_putR (G2 := cls0 ++ [.inr (.inl (9, [.ref 146, .ref 147, .ref 148, .int 0, .ref 149, .ref 150, .ref 151, .int 0, .ref 152, .int 0, .null, .null, .null, .int 0, .null, .int 0, .int 0, .int 0, .int 0, .int 0, .int 0, .int 0, .int 0, .int 0, .int 0])), .inl (1, 3), .inl (1, 3), .inl (1, 85), .inl (1, 207), .inl (1, 207), .inl (1, 2070), .inl (1, 414)]) (Or.inr (Or.inr rfl)) rfl (by decide) rfl (p_at (i := 0) hb) (by decide) (fun a e => by cases e) (p_set (i := 0) hb) ?_
  refine wp_sound [586] 40 _ _ _ _ _ _ _ ?_
  refine g_arr (m := 6) (n := 153) (G2 := cls0 ++ [.inr (.inl (9, [.ref 146, .ref 147, .ref 148, .int 0, .ref 149, .ref 150, .ref 151, .int 0, .ref 152, .int 0, .null, .null, .null, .int 0, .null, .int 0, .int 0, .int 0, .int 0, .int 0, .int 0, .int 0, .int 0, .int 0, .int 0])), .inl (1, 3), .inl (1, 3), .inl (1, 85), .inl (1, 207), .inl (1, 207), .inl (1, 2070), .inl (1, 414), .inl (1, 6)]) rfl (by decide) rfl (by decide) (by simp [hb]) (by decide) (by rw [List.append_assoc]; rfl) ?_
  refine g_putR (G2 := cls0 ++ [.inr (.inl (9, [.ref 146, .ref 147, .ref 148, .int 0, .ref 149, .ref 150, .ref 151, .int 0, .ref 152, .int 0, .ref 153, .null, .null, .int 0, .null, .int 0, .int 0, .int 0, .int 0, .int 0, .int 0, .int 0, .int 0, .int 0, .int 0])), .inl (1, 3), .inl (1, 3), .inl (1, 85), .inl (1, 207), .inl (1, 207), .inl (1, 2070), .inl (1, 414), .inl (1, 6)]) (Or.inr (Or.inr rfl)) rfl (by decide) rfl (p_at (i := 0) hb) (by decide) (fun a e => by cases e) (p_set (i := 0) hb) ?_
  refine wp_sound [595] 40 _ _ _ _ _ _ _ ?_
  refine g_arr (m := 301) (n := 154) (G2 := cls0 ++ [.inr (.inl (9, [.ref 146, .ref 147, .ref 148, .int 0, .ref 149, .ref 150, .ref 151, .int 0, .ref 152, .int 0, .ref 153, .null, .null, .int 0, .null, .int 0, .int 0, .int 0, .int 0, .int 0, .int 0, .int 0, .int 0, .int 0, .int 0])), .inl (1, 3), .inl (1, 3), .inl (1, 85), .inl (1, 207), .inl (1, 207), .inl (1, 2070), .inl (1, 414), .inl (1, 6), .inl (1, 301)]) rfl (by decide) rfl (by decide) (by simp [hb]) (by decide) (by rw [List.append_assoc]; rfl) ?_
  refine g_putR (G2 := cls0 ++ [.inr (.inl (9, [.ref 146, .ref 147, .ref 148, .int 0, .ref 149, .ref 150, .ref 151, .int 0, .ref 152, .int 0, .ref 153, .ref 154, .null, .int 0, .null, .int 0, .int 0, .int 0, .int 0, .int 0, .int 0, .int 0, .int 0, .int 0, .int 0])), .inl (1, 3), .inl (1, 3), .inl (1, 85), .inl (1, 207), .inl (1, 207), .inl (1, 2070), .inl (1, 414), .inl (1, 6), .inl (1, 301)]) (Or.inr (Or.inr rfl)) rfl (by decide) rfl (p_at (i := 0) hb) (by decide) (fun a e => by cases e) (p_set (i := 0) hb) ?_
  refine wp_sound [604] 40 _ _ _ _ _ _ _ ?_
  refine g_arr (m := 700) (n := 155) (G2 := cls0 ++ [.inr (.inl (9, [.ref 146, .ref 147, .ref 148, .int 0, .ref 149, .ref 150, .ref 151, .int 0, .ref 152, .int 0, .ref 153, .ref 154, .null, .int 0, .null, .int 0, .int 0, .int 0, .int 0, .int 0, .int 0, .int 0, .int 0, .int 0, .int 0])), .inl (1, 3), .inl (1, 3), .inl (1, 85), .inl (1, 207), .inl (1, 207), .inl (1, 2070), .inl (1, 414), .inl (1, 6), .inl (1, 301), .inl (0, 700)]) rfl (by decide) rfl (by decide) (by simp [hb]) (by decide) (by rw [List.append_assoc]; rfl) ?_
  refine g_putR (G2 := cls0 ++ [.inr (.inl (9, [.ref 146, .ref 147, .ref 148, .int 0, .ref 149, .ref 150, .ref 151, .int 0, .ref 152, .int 0, .ref 153, .ref 154, .ref 155, .int 0, .null, .int 0, .int 0, .int 0, .int 0, .int 0, .int 0, .int 0, .int 0, .int 0, .int 0])), .inl (1, 3), .inl (1, 3), .inl (1, 85), .inl (1, 207), .inl (1, 207), .inl (1, 2070), .inl (1, 414), .inl (1, 6), .inl (1, 301), .inl (0, 700)]) (Or.inr (Or.inr rfl)) rfl (by decide) rfl (p_at (i := 0) hb) (by decide) (fun a e => by cases e) (p_set (i := 0) hb) ?_
  refine wp_sound [612] 40 _ _ _ _ _ _ _ ?_
  refine g_arr (m := 120) (n := 156) (G2 := cls0 ++ [.inr (.inl (9, [.ref 146, .ref 147, .ref 148, .int 0, .ref 149, .ref 150, .ref 151, .int 0, .ref 152, .int 0, .ref 153, .ref 154, .ref 155, .int 0, .null, .int 0, .int 0, .int 0, .int 0, .int 0, .int 0, .int 0, .int 0, .int 0, .int 0])), .inl (1, 3), .inl (1, 3), .inl (1, 85), .inl (1, 207), .inl (1, 207), .inl (1, 2070), .inl (1, 414), .inl (1, 6), .inl (1, 301), .inl (0, 700), .inl (0, 120)]) rfl (by decide) rfl (by decide) (by simp [hb]) (by decide) (by rw [List.append_assoc]; rfl) ?_
  refine g_putR (G2 := cls0 ++ [.inr (.inl (9, [.ref 146, .ref 147, .ref 148, .int 0, .ref 149, .ref 150, .ref 151, .int 0, .ref 152, .int 0, .ref 153, .ref 154, .ref 155, .int 0, .ref 156, .int 0, .int 0, .int 0, .int 0, .int 0, .int 0, .int 0, .int 0, .int 0, .int 0])), .inl (1, 3), .inl (1, 3), .inl (1, 85), .inl (1, 207), .inl (1, 207), .inl (1, 2070), .inl (1, 414), .inl (1, 6), .inl (1, 301), .inl (0, 700), .inl (0, 120)]) (Or.inr (Or.inr rfl)) rfl (by decide) rfl (p_at (i := 0) hb) (by decide) (fun a e => by cases e) (p_set (i := 0) hb) ?_
  refine wp_sound [619] 40 _ _ _ _ _ _ _ ?_
  refine g_putI (z := 0) (Or.inl rfl) rfl (by decide) rfl (p_at (i := 0) hb) rfl ?_
  have eM : cls0 ++ [.inr (.inl (9, [.ref 146, .ref 147, .ref 148, .int 0, .ref 149, .ref 150, .ref 151, .int 0, .ref 152, .int 0, .ref 153, .ref 154, .ref 155, .int 0, .ref 156, .int 0, .int 0, .int 0, .int 0, .int 0, .int 0, .int 0, .int 0, .int 0, .int 0])), .inl (1, 3), .inl (1, 3), .inl (1, 85), .inl (1, 207), .inl (1, 207), .inl (1, 2070), .inl (1, 414), .inl (1, 6), .inl (1, 301), .inl (0, 700), .inl (0, 120)] = gM := by rfl
  rw [eM]
  refine fin _ ?_ ?_ ?_ ?_ ?_ ?_
  · intro q hq
    simp only [upM_ne (show q ≠ 145 by omega), upM_ne (show q ≠ 146 by omega), upM_ne (show q ≠ 147 by omega), upM_ne (show q ≠ 148 by omega), upM_ne (show q ≠ 149 by omega), upM_ne (show q ≠ 150 by omega), upM_ne (show q ≠ 151 by omega), upM_ne (show q ≠ 152 by omega), upM_ne (show q ≠ 153 by omega), upM_ne (show q ≠ 154 by omega), upM_ne (show q ≠ 155 by omega), upM_ne (show q ≠ 156 by omega)]
  · rw [upM_at]
    repeat rw [upM_ne (by decide)]
    rw [h145]
  · repeat rw [upM_ne (by decide)]
    rw [upM_at, upM_at]
  · repeat rw [upM_ne (by decide)]
    rw [upM_at, upM_at]
  · repeat rw [upM_ne (by decide)]
    rw [upM_at, upM_at]
  · repeat rw [upM_ne (by decide)]
    rw [upM_at]
end MOD
