/-! the law's loop: reading the script, what is left after a call -/
def lawL (i : Nat) (v6 v7 v8 v9 : Value) : List Value := [.ref 1000108, .ref 0, .ref 145, .ref 157, .ref 158, .int (Int32.ofNat i), v6, v7, v8, v9]
def Lcont (RO : List mE) (d : Nat) (Q : mQ) (ext : List sh) (i c s : Nat) : Prop := ∀ (sb' : Nat) (ext' : List sh) (M' : mM) (c' s' : Nat) (v6 v7 v8 v9 : Value), Inv sb' ext' M' → c' + ext.length ≤ c + 1 + ext'.length → s' + 150 * ext.length ≤ s + 6 + 150 * ext'.length → GoP RO d 358 (lawL i v6 v7 v8 v9) [] (gW sb' ext') M' 2408 c' s' Q
section LAW
variable {hs : Nat → Int32} {d len : Nat} {f : Nat → Int32} {G : List sh} {M : mM} {Q : mQ} {L r : List Value} {pc nx c s : Nat} {x : List Nat} {v : Value}
theorem go_ald {i : Int32} {j : Nat} (hcd : cd 358 pc = some (2, 5, nx, x, v)) (hi : i = Int32.ofNat j) (hj : j < len) (hlen : len ≤ 1000000) (h : GoP (RO9 hs len f) d 358 L (.int (f j) :: r) G M nx c s Q) : GoP (RO9 hs len f) d 358 L (.int i :: .ref 1000108 :: r) G M pc c s Q := by
  refine wst_sound (K := fun L' st' G' M' pc' c' s' => GoP (RO9 hs len f) d 358 L' st' G' M' pc' c' s' Q) hcd ?_ (fun _ _ _ _ _ _ _ h => h)
  show (bif Nat.ble len 1000000 then (∃ j : Nat, i = Int32.ofNat j ∧ j < len ∧ GoP (RO9 hs len f) d 358 L (.int (f j) :: r) G M nx c s Q) else False)
  rw [Nat.ble_eq_true_of_le hlen]
  exact ⟨j, hi, hj, h⟩
theorem lcmp_self {x : Int64} : lg_cmp x x = 0 := by
  unfold lg_cmp
  simp
end LAW
