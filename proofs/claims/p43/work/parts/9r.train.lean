/-! the law writes a train -/
section TXW
variable {hs f : Nat → Int32} {len : Nat} {X : List sh}
theorem st16 (G : List sh) (M : mM) : StrA (RO9 hs len f) G M 1000032 6 (strF [116, 114, 97, 105, 110, 32]) := ⟨1000033, rfl, rfl, rfl, rfl, rfl⟩
theorem st17 (G : List sh) (M : mM) : StrA (RO9 hs len f) G M 1000034 6 (strF [59, 109, 117, 108, 101, 32]) := ⟨1000035, rfl, rfl, rfl, rfl, rfl⟩
theorem st18 (G : List sh) (M : mM) : StrA (RO9 hs len f) G M 1000036 6 (strF [59, 115, 97, 99, 107, 32]) := ⟨1000037, rfl, rfl, rfl, rfl, rfl⟩
theorem st19 (G : List sh) (M : mM) : StrA (RO9 hs len f) G M 1000038 5 (strF [103, 114, 97, 105, 110]) := ⟨1000039, rfl, rfl, rfl, rfl, rfl⟩
theorem st20 (G : List sh) (M : mM) : StrA (RO9 hs len f) G M 1000040 5 (strF [99, 108, 111, 116, 104]) := ⟨1000041, rfl, rfl, rfl, rfl, rfl⟩
theorem st21 (G : List sh) (M : mM) : StrA (RO9 hs len f) G M 1000042 4 (strF [105, 114, 111, 110]) := ⟨1000043, rfl, rfl, rfl, rfl, rfl⟩
theorem st22 (G : List sh) (M : mM) : StrA (RO9 hs len f) G M 1000044 5 (strF [103, 108, 97, 115, 115]) := ⟨1000045, rfl, rfl, rfl, rfl, rfl⟩
theorem st23 (G : List sh) (M : mM) : StrA (RO9 hs len f) G M 1000046 6 (strF [59, 114, 111, 97, 100, 32]) := ⟨1000047, rfl, rfl, rfl, rfl, rfl⟩
theorem st24 (G : List sh) (M : mM) : StrA (RO9 hs len f) G M 1000048 6 (strF [59, 102, 111, 114, 100, 32]) := ⟨1000049, rfl, rfl, rfl, rfl, rfl⟩
theorem st52 (G : List sh) (M : mM) : StrA (RO9 hs len f) G M 1000104 6 (strF [59, 99, 97, 109, 112, 32]) := ⟨1000105, rfl, rfl, rfl, rfl, rfl⟩
theorem lstF_str {L : List Nat} : lstF (strF L) L.length = L.map Int32.ofNat := by
  rw [lstF]
  refine List.ext_getElem (by simp) (fun i h1 h2 => ?_)
  rw [List.getElem_map, List.getElem_map, List.getElem_range, strF, List.getD_eq_getElem?_getD, List.getElem?_eq_getElem (by simpa using h2)]
  rfl
theorem gX_app : gW 143 (.inl (1, 1) :: X) = gW 143 [.inl (1, 1)] ++ X := by
  simp [gW]
theorem gX_len : (gW 143 (.inl (1, 1) :: X)).length = 146 + X.length := by
  rw [gX_app, List.length_append]
  rfl
theorem gX_of {G : List sh} (h : ∀ q, q < 146 → G[q]? = (gW 143 (.inl (1, 1) :: X))[q]?) (hl : 146 ≤ G.length) : ∃ X', G = gW 143 (.inl (1, 1) :: X') ∧ X'.length + 146 = G.length := by
  refine ⟨G.drop 146, ?_, by rw [List.length_drop]; omega⟩
  have h2 : G.take 146 = gW 143 [.inl (1, 1)] := by
    refine List.ext_getElem? (fun i => ?_)
    by_cases hi : i < 146
    · rw [List.getElem?_take_of_lt hi, h i hi, gX_app, List.getElem?_append_left (by exact hi)]
    · rw [List.getElem?_eq_none (by rw [List.length_take]; omega), List.getElem?_eq_none (by exact Nat.le_of_not_lt hi)]
  rw [gX_app, ← h2, List.take_append_drop]
theorem SbT.fr {G : List sh} {M M' : mM} {b o p cap : Nat} {l : List Int32} (hT : SbT b G M o p cap l) (h : ∀ q, b ≤ q → M' q = M q) : SbT b G M' o p cap l := by
  obtain ⟨⟨a1, a2, a3⟩, g, c, d1, ⟨e1, e2⟩, f1, f2⟩ := hT
  exact ⟨⟨a1, a2, a3⟩, g, c, d1, ⟨by rw [h o a1]; exact e1, by rw [h o a1]; exact e2⟩, fun j hj => by rw [h p a2]; exact f1 j hj, fun j hj => by rw [h p a2]; exact f2 j hj⟩
/-- the text so far -/
def TrS (X : List sh) (M M0 : mM) (o p cap : Nat) (T : List Nat) (x0 c s n : Nat) : Prop := SbT 146 (gW 143 (.inl (1, 1) :: X)) M o p cap (T.map Int32.ofNat) ∧ (X.length ≤ x0 + n + 3 ∧ x0 ≤ 2000) ∧ (∀ q, q < 145 → M q = M0 q) ∧ c ≤ n + 3 ∧ s ≤ 1000 * n + 1200 ∧ ∀ y ∈ T, y < 128
end TXW
section TRN
variable {hs f : Nat → Int32} {len d o p cap x0 c s n : Nat} {X : List sh} {M M0 : mM} {Q : mQ} {T : List Nat} {L : List Value}
theorem TrS.nx {M' : mM} (h : TrS X M M0 o p cap T x0 c s n) (hM : ∀ q, q ≠ 145 → M' q = M q) : TrS X M' M0 o p cap T x0 c s n :=
  ⟨h.1.fr (fun q hq => hM q (by omega)), h.2.1, fun q hq => (hM q (by omega)).trans (h.2.2.1 q hq), h.2.2.2⟩
theorem TrS.o_lt (h : TrS X M M0 o p cap T x0 c s n) (hn : n ≤ 200) : o < 1000000 := h.1.o_lt (by rw [gX_len]; have := h.2.1; omega)
theorem TrS.step {X' : List sh} {M' : mM} {p' cap' mc ms : Nat} {T' : List Nat} {l : List Int32} (h : TrS X M M0 o p cap T x0 c s n) (e : l = (T ++ T').map Int32.ofNat) (hT' : ∀ y ∈ T', y < 128) (hS : SbT 146 (gW 143 (.inl (1, 1) :: X')) M' o p' cap' l) (hF : FrW 146 (gW 143 (.inl (1, 1) :: X)) M (gW 143 (.inl (1, 1) :: X')) M' mc) (h1 : mc ≤ 1) (h2 : ms ≤ 1000) : TrS X' M' M0 o p' cap' (T ++ T') x0 (c + mc) (s + ms) (n + 1) := by
  subst e
  have hl := hF.2.2
  rw [gX_len, gX_len] at hl
  obtain ⟨a, b, c1, d1, e1, f1⟩ := h
  refine ⟨hS, by omega, fun q hq => (hF.1 q (by omega)).2.trans (c1 q hq), by omega, by omega, fun y hy => ?_⟩
  rcases List.mem_append.mp hy with hy | hy
  · exact f1 y hy
  · exact hT' y hy
theorem dig_128 {x : Nat} (hx : x < 1000) : ∀ y ∈ digN x, y < 128 := fun y hy => by
  have := digN_kd hx y hy
  unfold kd at this
  split at this
  · exact absurd this (by decide)
  · split at this
    · omega
    · split at this <;> exact absurd this (by decide)
theorem ap_int {pc nx op na z9 n1 n2 n3 n4 n5 : Nat} {v : Value} {x : Nat} (hcd : cd 367 pc = some (7, op, nx, [0, 320, na, z9, n1, n2, n3, n4, n5, 1], v)) (hna : mna 0 na = 2) (hS : TrS X M M0 o p cap T x0 c s n) (hn : n ≤ 200) (hx : x < 1000) (hl : T.length ≤ 396) (h : ∀ X' M' p' cap' c' s', TrS X' M' M0 o p' cap' (T ++ digN x) x0 c' s' (n + 1) → GoP (RO9 hs len f) (d + 10) 367 L [.ref o] (gW 143 (.inl (1, 1) :: X')) M' nx c' s' Q) : GoP (RO9 hs len f) (d + 10) 367 L [.int (Int32.ofNat x), .ref o] (gW 143 (.inl (1, 1) :: X)) M pc c s Q := by
  have hX := hS.2.1
  have hlen : (gW 143 (.inl (1, 1) :: X)).length < 800000 := by rw [gX_len]; omega
  refine g_call hcd (by rw [hna]; rfl) (by rw [hna]; rfl) ?_ rfl ?_
  · rw [hna]; exact wrecv_v (wcls_o (hS.o_lt hn) hS.1.2.1.1)
  rw [hna]
  refine c_appI (b := 146) hS.1 (by rw [gX_len]; omega) hlen hx (by rw [List.length_map]; have := digs_len (n := x); omega) (fun G1 M1 p1 cap1 mc ms t1 f1 h1 h2 => ?_)
  obtain ⟨X1, rfl, hX1⟩ := gX_of (fun q hq => (f1.1 q hq).1) (by have := f1.2.1; rw [gX_len] at this; omega)
  exact h X1 M1 p1 cap1 _ _ (hS.step (by rw [List.map_append, digN_map]) (dig_128 hx) t1 f1 h1 h2)
theorem ap_chr {pc nx op na z9 n1 n2 n3 n4 n5 : Nat} {v : Value} {x : Nat} (hcd : cd 367 pc = some (7, op, nx, [0, 321, na, z9, n1, n2, n3, n4, n5, 1], v)) (hna : mna 0 na = 2) (hS : TrS X M M0 o p cap T x0 c s n) (hn : n ≤ 200) (hx : x < 128) (hl : T.length ≤ 396) (h : ∀ X' M' p' cap' c' s', TrS X' M' M0 o p' cap' (T ++ [x]) x0 c' s' (n + 1) → GoP (RO9 hs len f) (d + 10) 367 L [.ref o] (gW 143 (.inl (1, 1) :: X')) M' nx c' s' Q) : GoP (RO9 hs len f) (d + 10) 367 L [.int (Int32.ofNat x), .ref o] (gW 143 (.inl (1, 1) :: X)) M pc c s Q := by
  have hX := hS.2.1
  have hlen : (gW 143 (.inl (1, 1) :: X)).length < 800000 := by rw [gX_len]; omega
  refine g_call hcd (by rw [hna]; rfl) (by rw [hna]; rfl) ?_ rfl ?_
  · rw [hna]; exact wrecv_v (wcls_o (hS.o_lt hn) hS.1.2.1.1)
  rw [hna]
  refine c_appC (b := 146) hS.1 (by rw [gX_len]; omega) hlen ⟨x, hx, rfl⟩ (by rw [List.length_map]; omega) (fun G1 M1 p1 cap1 mc ms t1 f1 h1 h2 => ?_)
  obtain ⟨X1, rfl, hX1⟩ := gX_of (fun q hq => (f1.1 q hq).1) (by have := f1.2.1; rw [gX_len] at this; omega)
  exact h X1 M1 p1 cap1 _ _ (hS.step (by rw [List.map_append]; rfl) (fun y hy => by cases List.mem_singleton.mp hy; exact hx) t1 f1 h1 h2)
theorem ap_str {pc nx op na z9 n1 n2 n3 n4 n5 : Nat} {v : Value} {q : Nat} {W : List Nat} (hcd : cd 367 pc = some (7, op, nx, [0, 319, na, z9, n1, n2, n3, n4, n5, 1], v)) (hna : mna 0 na = 2) (hS : TrS X M M0 o p cap T x0 c s n) (hn : n ≤ 200) (hW : W.length ≤ 6) (hW2 : ∀ y ∈ W, y < 128) (hA : ∀ G M, StrA (RO9 hs len f) G M q W.length (strF W)) (hl : T.length ≤ 390) (h : ∀ X' M' p' cap' c' s', TrS X' M' M0 o p' cap' (T ++ W) x0 c' s' (n + 1) → GoP (RO9 hs len f) (d + 10) 367 L [.ref o] (gW 143 (.inl (1, 1) :: X')) M' nx c' s' Q) : GoP (RO9 hs len f) (d + 10) 367 L [.ref q, .ref o] (gW 143 (.inl (1, 1) :: X)) M pc c s Q := by
  have hX := hS.2.1
  have hlen : (gW 143 (.inl (1, 1) :: X)).length < 800000 := by rw [gX_len]; omega
  refine g_call hcd (by rw [hna]; rfl) (by rw [hna]; rfl) ?_ rfl ?_
  · rw [hna]; exact wrecv_v (wcls_o (hS.o_lt hn) hS.1.2.1.1)
  rw [hna]
  refine c_appS (b := 146) (f := strF W) (w := W.length) hS.1 (by rw [gX_len]; omega) hlen hA (fun j hj => ⟨W.getD j 0, hW2 _ (by rw [List.getD_eq_getElem?_getD, List.getElem?_eq_getElem hj]; exact List.getElem_mem hj), rfl⟩) (by omega) (by rw [List.length_map]; omega) (fun G1 M1 p1 cap1 mc ms t1 f1 h1 h2 => ?_)
  obtain ⟨X1, rfl, hX1⟩ := gX_of (fun q hq => (f1.1 q hq).1) (by have := f1.2.1; rw [gX_len] at this; omega)
  exact h X1 M1 p1 cap1 _ _ (hS.step (by rw [List.map_append, lstF_str]) hW2 t1 f1 h1 h2)
end TRN
