/-! new objects: worlds grow behind a prefix -/
section NEW
variable {RO : List mE} {d k pc c s op nx : Nat} {L st : List Value} {G G2 P S S' : List sh} {M : mM} {Q : mQ} {x : List Nat} {v : Value}
theorem p_at {b i : Nat} (hb : P.length = b) : (P ++ S)[b + i]? = S[i]? := by
  rw [List.getElem?_append_right (by omega), hb, Nat.add_sub_cancel_left]
theorem p_set {b i : Nat} {y : sh} (hb : P.length = b) : (P ++ S).set (b + i) y = P ++ S.set i y := by
  have h := List.set_append (s := P) (t := S) (i := b + i) (x := y)
  rw [if_neg (by omega), hb, Nat.add_sub_cancel_left] at h
  exact h
theorem g_new {n ci n1 n2 n3 : Nat} (hcd : cd k pc = some (5, op, nx, [ci, n1, n2, n3], v)) (hci : ci ≤ 6) (hG : G.length = n) (hn : n < 1000000) (hG2 : G ++ [.inr (.inl (ci, mdef ci))] = G2) (h : GoP RO d k L (.ref n :: st) G2 (upM M n (fun _ => 0)) nx (c + 1) (s + (mdef ci).length) Q) : GoP RO d k L st G M pc c s Q := by
  subst hG2
  refine wO_sound hcd hci (by omega) ?_
  rw [hG]
  exact h
theorem g_arr {n m : Nat} {z : Int32} (hcd : cd k pc = some (6, op, nx, x, v)) (hop : op ≤ 2) (hz : z = Int32.ofNat m) (hm : m ≤ 1000000) (hG : G.length = n) (hn : n < 1000000) (hG2 : G ++ [.inl (op, m)] = G2) (h : GoP RO d k L (.ref n :: st) G2 (upM M n (fun _ => 0)) nx (c + 1) (s + m) Q) : GoP RO d k L (.int z :: st) G M pc c s Q := by
  subst hG2 hz
  have e : (Int32.ofNat m).toNatClampNeg = m := Int32.toNatClampNeg_ofNat_of_lt (by omega)
  have h0 : ¬ Int32.ofNat m < 0 := by
    rw [Int32.lt_iff_toInt_lt, Int32.toInt_ofNat_of_lt (by omega)]
    simp
  refine wN_sound2 hcd h0 (by rw [e]; omega) (by omega) hop ?_
  rw [e, hG]
  exact h
theorem g_anew {n m : Nat} {z : Int32} (hcd : cd k pc = some (10, op, nx, x, v)) (hz : z = Int32.ofNat m) (hm : m ≤ 1000000) (hG : G.length = n) (hn : n < 1000000) (hG2 : G ++ [.inr (.inr (.inl (3, m, .inr (.inr (.inr (.inr (fun _ => none)))))))] = G2) (h : GoP RO d k L (.ref n :: st) G2 (upM M n (fun _ => 0)) nx (c + 1) (s + m) Q) : GoP RO d k L (.int z :: st) G M pc c s Q := by
  subst hG2 hz
  have e : (Int32.ofNat m).toNatClampNeg = m := Int32.toNatClampNeg_ofNat_of_lt (by omega)
  have h0 : ¬ Int32.ofNat m < 0 := by
    rw [Int32.lt_iff_toInt_lt, Int32.toInt_ofNat_of_lt (by omega)]
    simp
  refine wA_sound hcd h0 (by rw [e]; omega) (by omega) ?_
  rw [e, hG]
  exact h
theorem g_putR {ci kf n t q : Nat} {u : Value} {r fs : List Value} (hop : op = 39 ∨ op = 40 ∨ op = 41) (hcd : cd k pc = some (0, op, nx, [ci, kf, n, t], v)) (hq : q < 1000000) (hv : vkt u t = true) (hg : G[q]? = some (.inr (.inl (ci, fs)))) (hk : kf < fs.length) (hu : ∀ a, u ≠ .int a) (hG2 : G.set q (.inr (.inl (ci, fs.set kf u))) = G2) (h : GoP RO d k L r G2 M nx c s Q) : GoP RO d k L (u :: .ref q :: r) G M pc c s Q := by
  subst hG2
  have hW : (wof G M)[q]? = some (.inr (ci, sfld (M q) 0 fs)) := by rw [wof_at, hg]; rfl
  have hp := sf_put_eq (RO := RO) (v := v) (L := L) (n := n) (r := r) (Nat.ble_eq_true_of_le hq) hv hW (by rw [sfld_len]; exact hk)
  have he : (wof G M).set q (.inr (ci, (sfld (M q) 0 fs).set kf u)) = wof (G.set q (.inr (.inl (ci, fs.set kf u)))) M := by
    rw [sfld_setR hu]
    exact wof_setG (s := .inr (.inl (ci, fs.set kf u))) (List.getElem?_eq_some_iff.mp hg).1
  rw [he] at hp
  rcases hop with rfl | rfl | rfl
  · exact GoP.step 0 hcd (mstep0 (q := (ck_putfield, sf_putfield)) rfl hp) h
  · exact GoP.step 0 hcd (mstep0 (q := (ck_putfieldN, sf_putfieldN)) rfl hp) h
  · exact GoP.step 0 hcd (mstep0 (q := (ck_putfieldF, sf_putfieldF)) rfl hp) h
theorem g_putI {ci kf n t q : Nat} {a z : Int32} {r fs : List Value} (hop : op = 39 ∨ op = 40 ∨ op = 41) (hcd : cd k pc = some (0, op, nx, [ci, kf, n, t], v)) (hq : q < 1000000) (hv : vkt (.int a) t = true) (hg : G[q]? = some (.inr (.inl (ci, fs)))) (hz : fs[kf]? = some (.int z)) (h : GoP RO d k L r G (upM M q (upd (M q) kf a)) nx c s Q) : GoP RO d k L (.int a :: .ref q :: r) G M pc c s Q := by
  have hW : (wof G M)[q]? = some (.inr (ci, sfld (M q) 0 fs)) := by rw [wof_at, hg]; rfl
  have hp := sf_put_eq (RO := RO) (v := v) (L := L) (n := n) (r := r) (Nat.ble_eq_true_of_le hq) hv hW (by rw [sfld_len]; exact (List.getElem?_eq_some_iff.mp hz).1)
  have he : (wof G M).set q (.inr (ci, (sfld (M q) 0 fs).set kf (.int a))) = wof G (upM M q (upd (M q) kf a)) := by
    rw [sfld_setI hz]
    exact wof_set (s := .inr (.inl (ci, fs))) (f := upd (M q) kf a) hg
  rw [he] at hp
  rcases hop with rfl | rfl | rfl
  · exact GoP.step 0 hcd (mstep0 (q := (ck_putfield, sf_putfield)) rfl hp) h
  · exact GoP.step 0 hcd (mstep0 (q := (ck_putfieldN, sf_putfieldN)) rfl hp) h
  · exact GoP.step 0 hcd (mstep0 (q := (ck_putfieldF, sf_putfieldF)) rfl hp) h
theorem g_get {ci kf n q y : Nat} {r fs : List Value} (hcd : cd k pc = some (0, 37, nx, [ci, kf, n], v)) (hq : q < 1000000) (hg : G[q]? = some (.inr (.inl (ci, fs)))) (hy : fs[kf]? = some (.ref y)) (h : GoP RO d k L (.ref y :: r) G M nx c s Q) : GoP RO d k L (.ref q :: r) G M pc c s Q := by
  have h1 : mget RO (wof G M) q = some (.inr (ci, sfld (M q) 0 fs)) := by
    rw [mget, show Nat.blt q 1000000 = true from Nat.ble_eq_true_of_le hq]
    show (wof G M)[q]? = _
    rw [wof_at, hg]; rfl
  have h2 : (sfld (M q) 0 fs)[kf]? = some (.ref y) := by rw [sfld_at, hy]; rfl
  exact GoP.step 0 hcd (mstep0 (q := (ck_getfield, sf_getfield)) rfl (by simp only [sf_getfield, h1, show Nat.beq ci ci = true from Nat.beq_refl ci, cond_true, h2])) h
theorem g_aast {n j q u : Nat} {f : Nat → Option Nat} {r vs : List Value} {i : Int32} (hcd : cd k pc = some (2, 14, nx, x, v)) (hq : q < 1000000) (hu : u < 1000000) (hi : i = Int32.ofNat j) (hj : j < n) (hn : n ≤ 1000000) (hg : G[q]? = some (.inr (.inr (.inl (3, n, .inr (.inr (.inr (.inr f)))))))) (hgu : G[u]? = some (.inr (.inl (5, vs)))) (hG2 : G.set q (.inr (.inr (.inl (3, n, .inr (.inr (.inr (.inr (va_up f j (some u))))))))) = G2) (h : GoP RO d k L r G2 M nx c s Q) : GoP RO d k L (.ref u :: .int i :: .ref q :: r) G M pc c s Q := by
  subst hi hG2
  have hm : (wof G M)[q]? = some (.inl (3, n, .inr (.inr (.inr (.inr f))))) := by rw [wof_at, hg]; rfl
  have hv : (wof G M)[u]? = some (.inr (5, sfld (M u) 0 vs)) := by rw [wof_at, hgu]; rfl
  have hlt : q < (wof G M).length := by rw [wof_len]; exact (List.getElem?_eq_some_iff.mp hg).1
  have hs := wof_setG (M := M) (s := .inr (.inr (.inl (3, n, .inr (.inr (.inr (.inr (va_up f j (some u))))))))) (List.getElem?_eq_some_iff.mp hg).1
  refine GoP.step 0 hcd (mstep2 (q := (gc_aast, gf_aast)) rfl ?_) h
  simp only [gf_aast, show Nat.blt q 1000000 = true from Nat.ble_eq_true_of_le hq, show Nat.blt u 1000000 = true from Nat.ble_eq_true_of_le hu, Bool.and_self, cond_true, hm, hv, mset_eq, if_pos hlt]
  rw [vpb_n hj hn, clamp_n hj hn]
  exact congrArg (fun w => some (true, L, r, w)) hs
end NEW
