/-! the reference loads a text -/
section MLOAD
variable {RO : List mE} {d sb nf : Nat} {ext : List sh} {M : mM} {Q : mQ} {B : Nat → Nat} {Z : Nat → Int32}
def ldOk (M2 : mM) : mM := thr (upM M2 145 (upd (upd (upd (upd (upd (M2 145) 13 0) 16 0) 17 (-1)) 7 0) 9 0)) 0
def ldNo (M2 : mM) (k x : Nat) : mM := thr (upM (upM M2 145 (upd (upd (upd (M2 145) 13 0) 16 (Int32.ofNat k)) 17 (Int32.ofNat x))) 149 (copyF (M2 149) 0 (M2 150) 0 207)) 2
theorem e_load {v : Int32} (hZ : Z = zF (M 149) 0 207) (hf : M 145 13 = Int32.ofNat nf) (hnf : nf ≤ 700) (hB : ∀ j, j < nf → M 155 j = sgB (B j) ∧ B j < 256) (hK : I_key M) (h0 : inB v 0 (Int32.ofNat nf) = false → Q (.inl (some (.int 0))) (gW sb ext) (thr M 1) 0 0) (her : ∀ n, n ≤ nf → v = Int32.ofNat n → ∀ k x M2, pText Z B n = .inl (k, x) → FrU (asideM M) M2 → 0 < k → k < 7 → Q (.inl (some (.int 0))) (gW sb ext) (ldNo M2 k x) 0 0) (hok : ∀ n, n ≤ nf → v = Int32.ofNat n → ∀ N m S t e M2, pText Z B n = .inr (N, m, S, t, e) → FrU (asideM M) M2 → M2 149 = N → Q (.inl (some (.int (M2 149 4)))) (gW sb ext) (ldOk M2) 0 0) : EvP RO (d + 14) 181 [.ref 145, .int v] (gW sb ext) M Q := by
  refine EvP.wp [] 60 rfl ?_
  refine e_in.use ?_
  rw [hf]
  refine zb_if (fun hb => ?_) (fun hb => ?_)
  · refine e_refuse.use ?_
    exact h0 hb
  have hv : ∃ n, n < nf + 1 ∧ v = Int32.ofNat n := by
    have h1 : ¬ v < 0 := fun h => by simp [inB, h] at hb
    have h2 : ¬ Int32.ofNat nf < v := fun h => by simp [inB, h] at hb
    refine nat_lt (by omega) h1 ?_
    rw [Int32.lt_iff_toInt_lt] at h2 ⊢
    rw [i_toInt (by omega)] at h2 ⊢
    omega
  obtain ⟨n, hn, rfl⟩ := hv
  have her := her n (by omega) rfl
  have hok := hok n (by omega) rfl
  refine e_putsAside.use ?_
  refine e_text (M := asideM M) (n := n) (B := B) (Z := Z) (by rw [hZ, asideM, upM_ne (by decide)]) (by omega) (fun j hj => by rw [asideM, upM_ne (by decide)]; exact hB j (by omega)) (key_fr hK (upM_ne (by decide)) (upM_ne (by decide)) (upM_ne (by decide))) (fun N m S t e M2 hp f2 h23 h149 => ?_) (fun k x M2 hp hE => ?_)
  · have hq := hok N m S t e M2 hp f2 h149
    refine ⟨fun _ => ?_, fun h => absurd h23 h⟩
    refine ⟨fun _ => ?_, fun h => absurd h23 h⟩
    refine ⟨4, rfl, by omega, ?_⟩
    refine e_told.use ?_
    refine Q_of hq rfl ?_
    simp only [upM_at, upM_upM]
    rw [ldOk, ← h23]
    rfl
  · have hno := hE.no
    have hq := her k x M2 hp hE.1 hE.2.2.2.1 hE.2.2.2.2
    refine ⟨fun h => absurd h hno, fun _ => ?_⟩
    refine ⟨fun h => absurd h hno, fun _ => ?_⟩
    refine e_putsBack.use ?_
    refine e_refuse.use ?_
    refine Q_of hq rfl ?_
    simp only [upM_at, upM_upM]
    rw [ldNo, ← hE.2.1, ← hE.2.2.1]
    rfl
end MLOAD
