/-! what is only read, at the start -/
def strD : List (String × Nat × List Nat) := [("MuleTrain", 12, [116, 114, 97, 105, 110, 32, 50, 48, 32, 49, 48, 32, 51, 59, 32, 109, 117, 108, 101, 32, 106, 101, 110, 32, 49, 48, 48, 59, 32, 109, 117, 108, 101, 32, 109, 111, 108, 108, 32, 54, 48, 59, 32, 115, 97, 99, 107, 32, 103, 114, 97, 105, 110, 32, 51, 48, 32, 52, 48, 59, 32, 115, 97, 99, 107, 32, 99, 108, 111, 116, 104, 32, 50, 48, 32, 54, 48, 59, 32, 115, 97, 99, 107, 32, 105, 114, 111, 110, 32, 53, 48, 32, 51, 48, 59, 32, 115, 97, 99, 107, 32, 103, 108, 97, 115, 115, 32, 49, 48, 32, 57, 48, 59, 32, 115, 97, 99, 107, 32, 103, 114, 97, 105, 110, 32, 50, 53, 32, 50, 48, 59, 32, 114, 111, 97, 100, 32, 52, 48, 59, 32, 102, 111, 114, 100, 32, 53, 59, 32, 99, 97, 109, 112, 32, 56, 59, 32, 112, 97, 99, 107, 32, 48, 32, 106, 101, 110, 32, 108, 101, 102, 116, 59, 32, 112, 97, 99, 107, 32, 51, 32, 106, 101, 110, 32, 114, 105, 103, 104, 116, 59, 32, 112, 97, 99, 107, 32, 49, 32, 109, 111, 108, 108, 32, 108, 101, 102, 116]), ("MuleTrain$Parser", 120, [116, 114, 97, 105, 110]), ("MuleTrain$Parser", 58, [109, 117, 108, 101]), ("MuleTrain$Parser", 67, [115, 97, 99, 107]), ("MuleTrain$Parser", 203, [103, 114, 97, 105, 110]), ("MuleTrain$Parser", 205, [99, 108, 111, 116, 104]), ("MuleTrain$Parser", 207, [105, 114, 111, 110]), ("MuleTrain$Parser", 209, [103, 108, 97, 115, 115]), ("MuleTrain$Parser", 72, [114, 111, 97, 100]), ("MuleTrain$Parser", 77, [102, 111, 114, 100]), ("MuleTrain$Parser", 79, [99, 97, 109, 112]), ("MuleTrain$Parser", 81, [112, 97, 99, 107]), ("MuleTrain$Parser", 211, [108, 101, 102, 116]), ("MuleTrain$Parser", 213, [114, 105, 103, 104, 116]), ("MuleTrain$Parser", 86, [114, 101, 115, 116]), ("MuleTrain$Parser", 91, [116, 114, 105, 112]), ("MuleTrainLaw", 77, [116, 114, 97, 105, 110, 32]), ("MuleTrainLaw", 93, [59, 109, 117, 108, 101, 32]), ("MuleTrainLaw", 98, [59, 115, 97, 99, 107, 32]), ("MuleTrainLaw", 100, [103, 114, 97, 105, 110]), ("MuleTrainLaw", 102, [99, 108, 111, 116, 104]), ("MuleTrainLaw", 104, [105, 114, 111, 110]), ("MuleTrainLaw", 106, [103, 108, 97, 115, 115]), ("MuleTrainLaw", 108, [59, 114, 111, 97, 100, 32]), ("MuleTrainLaw", 110, [59, 102, 111, 114, 100, 32]), ("MuleTrain", 84, [116, 104, 101, 32, 105, 110, 112, 117, 116, 32, 98, 117, 102, 102, 101, 114, 32, 105, 115, 32, 102, 117, 108, 108]), ("MuleTrain", 93, [116, 104, 101, 32, 108, 101, 110, 103, 116, 104, 32, 105, 115, 32, 111, 117, 116, 32, 111, 102, 32, 114, 97, 110, 103, 101]), ("MuleTrain", 99, [116, 104, 101, 32, 116, 101, 120, 116, 32, 104, 97, 115, 32, 97, 110, 32, 101, 114, 114, 111, 114]), ("MuleTrain", 138, [116, 104, 101, 114, 101, 32, 105, 115, 32, 110, 111, 32, 115, 117, 99, 104, 32, 118, 97, 108, 117, 101]), ("MuleTrain", 362, [116, 104, 101, 114, 101, 32, 105, 115, 32, 110, 111, 32, 115, 117, 99, 104, 32, 115, 101, 116, 116, 105, 110, 103]), ("MuleTrain", 146, [116, 104, 101, 114, 101, 32, 105, 115, 32, 110, 111, 32, 115, 117, 99, 104, 32, 99, 111, 117, 110, 116]), ("MuleTrain", 355, [116, 104, 101, 114, 101, 32, 105, 115, 32, 110, 111, 32, 115, 117, 99, 104, 32, 109, 117, 108, 101]), ("MuleTrain", 154, [109, 117, 108, 101, 115, 32, 104, 97, 118, 101, 32, 110, 111, 32, 115, 117, 99, 104, 32, 110, 117, 109, 98, 101, 114]), ("MuleTrain", 358, [116, 104, 101, 114, 101, 32, 105, 115, 32, 110, 111, 32, 115, 117, 99, 104, 32, 115, 97, 99, 107]), ("MuleTrain", 188, [115, 97, 99, 107, 115, 32, 104, 97, 118, 101, 32, 110, 111, 32, 115, 117, 99, 104, 32, 110, 117, 109, 98, 101, 114]), ("MuleTrain", 360, [116, 104, 101, 114, 101, 32, 105, 115, 32, 110, 111, 32, 115, 117, 99, 104, 32, 115, 116, 97, 103, 101]), ("MuleTrain", 193, [115, 116, 97, 103, 101, 115, 32, 104, 97, 118, 101, 32, 110, 111, 32, 115, 117, 99, 104, 32, 110, 117, 109, 98, 101, 114]), ("MuleTrain", 207, [116, 104, 101, 32, 100, 101, 112, 116, 104, 32, 105, 115, 32, 111, 117, 116, 32, 111, 102, 32, 114, 97, 110, 103, 101]), ("MuleTrain", 239, [116, 104, 101, 114, 101, 32, 105, 115, 32, 110, 111, 32, 115, 117, 99, 104, 32, 115, 105, 100, 101]), ("MuleTrain", 241, [116, 104, 101, 32, 115, 97, 99, 107, 32, 99, 97, 110, 110, 111, 116, 32, 98, 101, 32, 112, 97, 99, 107, 101, 100, 32, 111, 110, 32, 116, 104, 105, 115, 32, 109, 117, 108, 101]), ("MuleTrain", 366, [116, 104, 101, 32, 115, 97, 99, 107, 32, 105, 115, 32, 111, 110, 32, 110, 111, 32, 109, 117, 108, 101]), ("MuleTrain", 272, [116, 104, 101, 32, 116, 114, 105, 112, 32, 99, 97, 110, 110, 111, 116, 32, 98, 101, 103, 105, 110]), ("MuleTrain", 274, [116, 104, 101, 32, 100, 97, 121, 115, 32, 97, 114, 101, 32, 111, 117, 116, 32, 111, 102, 32, 114, 97, 110, 103, 101]), ("MuleTrain", 276, [116, 104, 101, 114, 101, 32, 97, 114, 101, 32, 110, 111, 116, 32, 115, 111, 32, 109, 97, 110, 121, 32, 100, 97, 121, 115]), ("MuleTrain", 284, [116, 104, 101, 114, 101, 32, 99, 97, 110, 32, 98, 101, 32, 110, 111, 32, 115, 117, 99, 104, 32, 115, 97, 99, 107]), ("MuleTrain", 289, [116, 104, 101, 114, 101, 32, 97, 114, 101, 32, 116, 111, 111, 32, 109, 97, 110, 121, 32, 115, 97, 99, 107, 115]), ("MuleTrain", 298, [116, 104, 101, 114, 101, 32, 99, 97, 110, 32, 98, 101, 32, 110, 111, 32, 115, 117, 99, 104, 32, 115, 116, 97, 103, 101]), ("MuleTrain", 300, [116, 104, 101, 114, 101, 32, 97, 114, 101, 32, 116, 111, 111, 32, 109, 97, 110, 121, 32, 115, 116, 97, 103, 101, 115]), ("MuleTrain", 311, [116, 104, 101, 32, 118, 97, 108, 117, 101, 32, 105, 115, 32, 111, 117, 116, 32, 111, 102, 32, 114, 97, 110, 103, 101]), ("MuleTrain", 364, [116, 104, 101, 114, 101, 32, 105, 115, 32, 110, 111, 32, 115, 117, 99, 104, 32, 115, 108, 111, 116]), ("MuleTrain", 316, [110, 111, 116, 104, 105, 110, 103, 32, 105, 115, 32, 115, 97, 118, 101, 100, 32, 105, 110, 32, 116, 104, 105, 115, 32, 115, 108, 111, 116]), ("MuleTrain", 318, [110, 111, 32, 99, 104, 97, 110, 103, 101, 32, 99, 97, 110, 32, 98, 101, 32, 117, 110, 100, 111, 110, 101]), ("MuleTrainLaw", 112, [59, 99, 97, 109, 112, 32])]
def strOf : List Nat := [242, 454, 463, 471, 479, 488, 497, 505, 514, 522, 530, 538, 546, 554, 563, 571, 1148, 1158, 1168, 1178, 1188, 1198, 1207, 1217, 1227, 637, 665, 695, 1254, 1091, 1280, 772, 1306, 747, 1335, 1065, 1364, 1394, 797, 822, 864, 1423, 890, 919, 949, 978, 1006, 1036, 1119, 579, 604, 720, 1237]
def valT (own : String) (k : Nat) : Term := .field (.string own k) "java/lang/String" "value" "[B"
def elC (tm : Term) : Nat → List Nat → List Cond
  | _, [] => []
  | j, b :: l => .eq (.elem tm (.int (Int32.ofNat j))) (.int (Int32.ofNat b)) :: elC tm (j + 1) l
def strC (own : String) (k : Nat) (l : List Nat) : List Cond := .exactly (.string own k) "java/lang/String" :: .eq (.field (.string own k) "java/lang/String" "coder" "B") (.int 0) :: .arrayOf (valT own k) .byte :: .eq (.length (valT own k)) (.int (Int32.ofNat l.length)) :: elC (valT own k) 0 l
set_option maxRecDepth 100000 in
theorem elC_mem {tm : Term} : ∀ (l : List Nat) (o j : Nat), j < l.length → .eq (.elem tm (.int (Int32.ofNat (o + j)))) (.int (Int32.ofNat (l.getD j 0))) ∈ elC tm o l := by
  intro l
  induction l with
  | nil => intro o j h; cases h
  | cons b l ih =>
    intro o j h
    cases j with
    | zero => exact List.mem_cons_self
    | succ j =>
      have h9 := ih (o + 1) j (by simpa using h)
      rw [show o + 1 + j = o + (j + 1) by omega] at h9
      exact List.mem_cons_of_mem _ h9
def narF : List Cond := flatC narrow_1
set_option maxRecDepth 100000 in
theorem nar_0 : (narF.drop 242).take 212 = strC "MuleTrain" 12 [116, 114, 97, 105, 110, 32, 50, 48, 32, 49, 48, 32, 51, 59, 32, 109, 117, 108, 101, 32, 106, 101, 110, 32, 49, 48, 48, 59, 32, 109, 117, 108, 101, 32, 109, 111, 108, 108, 32, 54, 48, 59, 32, 115, 97, 99, 107, 32, 103, 114, 97, 105, 110, 32, 51, 48, 32, 52, 48, 59, 32, 115, 97, 99, 107, 32, 99, 108, 111, 116, 104, 32, 50, 48, 32, 54, 48, 59, 32, 115, 97, 99, 107, 32, 105, 114, 111, 110, 32, 53, 48, 32, 51, 48, 59, 32, 115, 97, 99, 107, 32, 103, 108, 97, 115, 115, 32, 49, 48, 32, 57, 48, 59, 32, 115, 97, 99, 107, 32, 103, 114, 97, 105, 110, 32, 50, 53, 32, 50, 48, 59, 32, 114, 111, 97, 100, 32, 52, 48, 59, 32, 102, 111, 114, 100, 32, 53, 59, 32, 99, 97, 109, 112, 32, 56, 59, 32, 112, 97, 99, 107, 32, 48, 32, 106, 101, 110, 32, 108, 101, 102, 116, 59, 32, 112, 97, 99, 107, 32, 51, 32, 106, 101, 110, 32, 114, 105, 103, 104, 116, 59, 32, 112, 97, 99, 107, 32, 49, 32, 109, 111, 108, 108, 32, 108, 101, 102, 116] := by rfl
set_option maxRecDepth 100000 in
theorem nar_1 : (narF.drop 454).take 9 = strC "MuleTrain$Parser" 120 [116, 114, 97, 105, 110] := by rfl
set_option maxRecDepth 100000 in
theorem nar_2 : (narF.drop 463).take 8 = strC "MuleTrain$Parser" 58 [109, 117, 108, 101] := by rfl
set_option maxRecDepth 100000 in
theorem nar_3 : (narF.drop 471).take 8 = strC "MuleTrain$Parser" 67 [115, 97, 99, 107] := by rfl
set_option maxRecDepth 100000 in
theorem nar_4 : (narF.drop 479).take 9 = strC "MuleTrain$Parser" 203 [103, 114, 97, 105, 110] := by rfl
set_option maxRecDepth 100000 in
theorem nar_5 : (narF.drop 488).take 9 = strC "MuleTrain$Parser" 205 [99, 108, 111, 116, 104] := by rfl
set_option maxRecDepth 100000 in
theorem nar_6 : (narF.drop 497).take 8 = strC "MuleTrain$Parser" 207 [105, 114, 111, 110] := by rfl
set_option maxRecDepth 100000 in
theorem nar_7 : (narF.drop 505).take 9 = strC "MuleTrain$Parser" 209 [103, 108, 97, 115, 115] := by rfl
set_option maxRecDepth 100000 in
theorem nar_8 : (narF.drop 514).take 8 = strC "MuleTrain$Parser" 72 [114, 111, 97, 100] := by rfl
set_option maxRecDepth 100000 in
theorem nar_9 : (narF.drop 522).take 8 = strC "MuleTrain$Parser" 77 [102, 111, 114, 100] := by rfl
set_option maxRecDepth 100000 in
theorem nar_10 : (narF.drop 530).take 8 = strC "MuleTrain$Parser" 79 [99, 97, 109, 112] := by rfl
set_option maxRecDepth 100000 in
theorem nar_11 : (narF.drop 538).take 8 = strC "MuleTrain$Parser" 81 [112, 97, 99, 107] := by rfl
set_option maxRecDepth 100000 in
theorem nar_12 : (narF.drop 546).take 8 = strC "MuleTrain$Parser" 211 [108, 101, 102, 116] := by rfl
set_option maxRecDepth 100000 in
theorem nar_13 : (narF.drop 554).take 9 = strC "MuleTrain$Parser" 213 [114, 105, 103, 104, 116] := by rfl
set_option maxRecDepth 100000 in
theorem nar_14 : (narF.drop 563).take 8 = strC "MuleTrain$Parser" 86 [114, 101, 115, 116] := by rfl
set_option maxRecDepth 100000 in
theorem nar_15 : (narF.drop 571).take 8 = strC "MuleTrain$Parser" 91 [116, 114, 105, 112] := by rfl
set_option maxRecDepth 100000 in
theorem nar_16 : (narF.drop 1148).take 10 = strC "MuleTrainLaw" 77 [116, 114, 97, 105, 110, 32] := by rfl
set_option maxRecDepth 100000 in
theorem nar_17 : (narF.drop 1158).take 10 = strC "MuleTrainLaw" 93 [59, 109, 117, 108, 101, 32] := by rfl
set_option maxRecDepth 100000 in
theorem nar_18 : (narF.drop 1168).take 10 = strC "MuleTrainLaw" 98 [59, 115, 97, 99, 107, 32] := by rfl
set_option maxRecDepth 100000 in
theorem nar_19 : (narF.drop 1178).take 9 = strC "MuleTrainLaw" 100 [103, 114, 97, 105, 110] := by rfl
set_option maxRecDepth 100000 in
theorem nar_20 : (narF.drop 1188).take 9 = strC "MuleTrainLaw" 102 [99, 108, 111, 116, 104] := by rfl
set_option maxRecDepth 100000 in
theorem nar_21 : (narF.drop 1198).take 8 = strC "MuleTrainLaw" 104 [105, 114, 111, 110] := by rfl
set_option maxRecDepth 100000 in
theorem nar_22 : (narF.drop 1207).take 9 = strC "MuleTrainLaw" 106 [103, 108, 97, 115, 115] := by rfl
set_option maxRecDepth 100000 in
theorem nar_23 : (narF.drop 1217).take 10 = strC "MuleTrainLaw" 108 [59, 114, 111, 97, 100, 32] := by rfl
set_option maxRecDepth 100000 in
theorem nar_24 : (narF.drop 1227).take 10 = strC "MuleTrainLaw" 110 [59, 102, 111, 114, 100, 32] := by rfl
set_option maxRecDepth 100000 in
theorem nar_25 : (narF.drop 637).take 28 = strC "MuleTrain" 84 [116, 104, 101, 32, 105, 110, 112, 117, 116, 32, 98, 117, 102, 102, 101, 114, 32, 105, 115, 32, 102, 117, 108, 108] := by rfl
set_option maxRecDepth 100000 in
theorem nar_26 : (narF.drop 665).take 30 = strC "MuleTrain" 93 [116, 104, 101, 32, 108, 101, 110, 103, 116, 104, 32, 105, 115, 32, 111, 117, 116, 32, 111, 102, 32, 114, 97, 110, 103, 101] := by rfl
set_option maxRecDepth 100000 in
theorem nar_27 : (narF.drop 695).take 25 = strC "MuleTrain" 99 [116, 104, 101, 32, 116, 101, 120, 116, 32, 104, 97, 115, 32, 97, 110, 32, 101, 114, 114, 111, 114] := by rfl
set_option maxRecDepth 100000 in
theorem nar_28 : (narF.drop 1254).take 26 = strC "MuleTrain" 138 [116, 104, 101, 114, 101, 32, 105, 115, 32, 110, 111, 32, 115, 117, 99, 104, 32, 118, 97, 108, 117, 101] := by rfl
set_option maxRecDepth 100000 in
theorem nar_29 : (narF.drop 1091).take 28 = strC "MuleTrain" 362 [116, 104, 101, 114, 101, 32, 105, 115, 32, 110, 111, 32, 115, 117, 99, 104, 32, 115, 101, 116, 116, 105, 110, 103] := by rfl
set_option maxRecDepth 100000 in
theorem nar_30 : (narF.drop 1280).take 26 = strC "MuleTrain" 146 [116, 104, 101, 114, 101, 32, 105, 115, 32, 110, 111, 32, 115, 117, 99, 104, 32, 99, 111, 117, 110, 116] := by rfl
set_option maxRecDepth 100000 in
theorem nar_31 : (narF.drop 772).take 25 = strC "MuleTrain" 355 [116, 104, 101, 114, 101, 32, 105, 115, 32, 110, 111, 32, 115, 117, 99, 104, 32, 109, 117, 108, 101] := by rfl
set_option maxRecDepth 100000 in
theorem nar_32 : (narF.drop 1306).take 29 = strC "MuleTrain" 154 [109, 117, 108, 101, 115, 32, 104, 97, 118, 101, 32, 110, 111, 32, 115, 117, 99, 104, 32, 110, 117, 109, 98, 101, 114] := by rfl
set_option maxRecDepth 100000 in
theorem nar_33 : (narF.drop 747).take 25 = strC "MuleTrain" 358 [116, 104, 101, 114, 101, 32, 105, 115, 32, 110, 111, 32, 115, 117, 99, 104, 32, 115, 97, 99, 107] := by rfl
set_option maxRecDepth 100000 in
theorem nar_34 : (narF.drop 1335).take 29 = strC "MuleTrain" 188 [115, 97, 99, 107, 115, 32, 104, 97, 118, 101, 32, 110, 111, 32, 115, 117, 99, 104, 32, 110, 117, 109, 98, 101, 114] := by rfl
set_option maxRecDepth 100000 in
theorem nar_35 : (narF.drop 1065).take 26 = strC "MuleTrain" 360 [116, 104, 101, 114, 101, 32, 105, 115, 32, 110, 111, 32, 115, 117, 99, 104, 32, 115, 116, 97, 103, 101] := by rfl
set_option maxRecDepth 100000 in
theorem nar_36 : (narF.drop 1364).take 30 = strC "MuleTrain" 193 [115, 116, 97, 103, 101, 115, 32, 104, 97, 118, 101, 32, 110, 111, 32, 115, 117, 99, 104, 32, 110, 117, 109, 98, 101, 114] := by rfl
set_option maxRecDepth 100000 in
theorem nar_37 : (narF.drop 1394).take 29 = strC "MuleTrain" 207 [116, 104, 101, 32, 100, 101, 112, 116, 104, 32, 105, 115, 32, 111, 117, 116, 32, 111, 102, 32, 114, 97, 110, 103, 101] := by rfl
set_option maxRecDepth 100000 in
theorem nar_38 : (narF.drop 797).take 25 = strC "MuleTrain" 239 [116, 104, 101, 114, 101, 32, 105, 115, 32, 110, 111, 32, 115, 117, 99, 104, 32, 115, 105, 100, 101] := by rfl
set_option maxRecDepth 100000 in
theorem nar_39 : (narF.drop 822).take 42 = strC "MuleTrain" 241 [116, 104, 101, 32, 115, 97, 99, 107, 32, 99, 97, 110, 110, 111, 116, 32, 98, 101, 32, 112, 97, 99, 107, 101, 100, 32, 111, 110, 32, 116, 104, 105, 115, 32, 109, 117, 108, 101] := by rfl
set_option maxRecDepth 100000 in
theorem nar_40 : (narF.drop 864).take 26 = strC "MuleTrain" 366 [116, 104, 101, 32, 115, 97, 99, 107, 32, 105, 115, 32, 111, 110, 32, 110, 111, 32, 109, 117, 108, 101] := by rfl
set_option maxRecDepth 100000 in
theorem nar_41 : (narF.drop 1423).take 25 = strC "MuleTrain" 272 [116, 104, 101, 32, 116, 114, 105, 112, 32, 99, 97, 110, 110, 111, 116, 32, 98, 101, 103, 105, 110] := by rfl
set_option maxRecDepth 100000 in
theorem nar_42 : (narF.drop 890).take 29 = strC "MuleTrain" 274 [116, 104, 101, 32, 100, 97, 121, 115, 32, 97, 114, 101, 32, 111, 117, 116, 32, 111, 102, 32, 114, 97, 110, 103, 101] := by rfl
set_option maxRecDepth 100000 in
theorem nar_43 : (narF.drop 919).take 30 = strC "MuleTrain" 276 [116, 104, 101, 114, 101, 32, 97, 114, 101, 32, 110, 111, 116, 32, 115, 111, 32, 109, 97, 110, 121, 32, 100, 97, 121, 115] := by rfl
set_option maxRecDepth 100000 in
theorem nar_44 : (narF.drop 949).take 29 = strC "MuleTrain" 284 [116, 104, 101, 114, 101, 32, 99, 97, 110, 32, 98, 101, 32, 110, 111, 32, 115, 117, 99, 104, 32, 115, 97, 99, 107] := by rfl
set_option maxRecDepth 100000 in
theorem nar_45 : (narF.drop 978).take 28 = strC "MuleTrain" 289 [116, 104, 101, 114, 101, 32, 97, 114, 101, 32, 116, 111, 111, 32, 109, 97, 110, 121, 32, 115, 97, 99, 107, 115] := by rfl
set_option maxRecDepth 100000 in
theorem nar_46 : (narF.drop 1006).take 30 = strC "MuleTrain" 298 [116, 104, 101, 114, 101, 32, 99, 97, 110, 32, 98, 101, 32, 110, 111, 32, 115, 117, 99, 104, 32, 115, 116, 97, 103, 101] := by rfl
set_option maxRecDepth 100000 in
theorem nar_47 : (narF.drop 1036).take 29 = strC "MuleTrain" 300 [116, 104, 101, 114, 101, 32, 97, 114, 101, 32, 116, 111, 111, 32, 109, 97, 110, 121, 32, 115, 116, 97, 103, 101, 115] := by rfl
set_option maxRecDepth 100000 in
theorem nar_48 : (narF.drop 1119).take 29 = strC "MuleTrain" 311 [116, 104, 101, 32, 118, 97, 108, 117, 101, 32, 105, 115, 32, 111, 117, 116, 32, 111, 102, 32, 114, 97, 110, 103, 101] := by rfl
set_option maxRecDepth 100000 in
theorem nar_49 : (narF.drop 579).take 25 = strC "MuleTrain" 364 [116, 104, 101, 114, 101, 32, 105, 115, 32, 110, 111, 32, 115, 117, 99, 104, 32, 115, 108, 111, 116] := by rfl
set_option maxRecDepth 100000 in
theorem nar_50 : (narF.drop 604).take 33 = strC "MuleTrain" 316 [110, 111, 116, 104, 105, 110, 103, 32, 105, 115, 32, 115, 97, 118, 101, 100, 32, 105, 110, 32, 116, 104, 105, 115, 32, 115, 108, 111, 116] := by rfl
set_option maxRecDepth 100000 in
theorem nar_51 : (narF.drop 720).take 27 = strC "MuleTrain" 318 [110, 111, 32, 99, 104, 97, 110, 103, 101, 32, 99, 97, 110, 32, 98, 101, 32, 117, 110, 100, 111, 110, 101] := by rfl
set_option maxRecDepth 100000 in
theorem nar_52 : (narF.drop 1237).take 10 = strC "MuleTrainLaw" 112 [59, 99, 97, 109, 112, 32] := by rfl
set_option maxRecDepth 100000 in
theorem nar_all : ∀ q ∈ strD.zip strOf, (narF.drop q.2).take (4 + q.1.2.2.length) = strC q.1.1 q.1.2.1 q.1.2.2 := List.forall_mem_cons.mpr ⟨nar_0, List.forall_mem_cons.mpr ⟨nar_1, List.forall_mem_cons.mpr ⟨nar_2, List.forall_mem_cons.mpr ⟨nar_3, List.forall_mem_cons.mpr ⟨nar_4, List.forall_mem_cons.mpr ⟨nar_5, List.forall_mem_cons.mpr ⟨nar_6, List.forall_mem_cons.mpr ⟨nar_7, List.forall_mem_cons.mpr ⟨nar_8, List.forall_mem_cons.mpr ⟨nar_9, List.forall_mem_cons.mpr ⟨nar_10, List.forall_mem_cons.mpr ⟨nar_11, List.forall_mem_cons.mpr ⟨nar_12, List.forall_mem_cons.mpr ⟨nar_13, List.forall_mem_cons.mpr ⟨nar_14, List.forall_mem_cons.mpr ⟨nar_15, List.forall_mem_cons.mpr ⟨nar_16, List.forall_mem_cons.mpr ⟨nar_17, List.forall_mem_cons.mpr ⟨nar_18, List.forall_mem_cons.mpr ⟨nar_19, List.forall_mem_cons.mpr ⟨nar_20, List.forall_mem_cons.mpr ⟨nar_21, List.forall_mem_cons.mpr ⟨nar_22, List.forall_mem_cons.mpr ⟨nar_23, List.forall_mem_cons.mpr ⟨nar_24, List.forall_mem_cons.mpr ⟨nar_25, List.forall_mem_cons.mpr ⟨nar_26, List.forall_mem_cons.mpr ⟨nar_27, List.forall_mem_cons.mpr ⟨nar_28, List.forall_mem_cons.mpr ⟨nar_29, List.forall_mem_cons.mpr ⟨nar_30, List.forall_mem_cons.mpr ⟨nar_31, List.forall_mem_cons.mpr ⟨nar_32, List.forall_mem_cons.mpr ⟨nar_33, List.forall_mem_cons.mpr ⟨nar_34, List.forall_mem_cons.mpr ⟨nar_35, List.forall_mem_cons.mpr ⟨nar_36, List.forall_mem_cons.mpr ⟨nar_37, List.forall_mem_cons.mpr ⟨nar_38, List.forall_mem_cons.mpr ⟨nar_39, List.forall_mem_cons.mpr ⟨nar_40, List.forall_mem_cons.mpr ⟨nar_41, List.forall_mem_cons.mpr ⟨nar_42, List.forall_mem_cons.mpr ⟨nar_43, List.forall_mem_cons.mpr ⟨nar_44, List.forall_mem_cons.mpr ⟨nar_45, List.forall_mem_cons.mpr ⟨nar_46, List.forall_mem_cons.mpr ⟨nar_47, List.forall_mem_cons.mpr ⟨nar_48, List.forall_mem_cons.mpr ⟨nar_49, List.forall_mem_cons.mpr ⟨nar_50, List.forall_mem_cons.mpr ⟨nar_51, List.forall_mem_cons.mpr ⟨nar_52, fun _ h => absurd h List.not_mem_nil⟩⟩⟩⟩⟩⟩⟩⟩⟩⟩⟩⟩⟩⟩⟩⟩⟩⟩⟩⟩⟩⟩⟩⟩⟩⟩⟩⟩⟩⟩⟩⟩⟩⟩⟩⟩⟩⟩⟩⟩⟩⟩⟩⟩⟩⟩⟩⟩⟩⟩⟩⟩⟩
set_option maxRecDepth 100000 in
theorem mstr_w : ∀ q ∈ mstrs, Cond.stringRef q.1 q.2.1 q.2.2 ∈ lw_tbl := List.forall_mem_cons.mpr ⟨wat_mem (n := 1136) rfl, List.forall_mem_cons.mpr ⟨wat_mem (n := 1233) rfl, List.forall_mem_cons.mpr ⟨wat_mem (n := 2013) rfl, List.forall_mem_cons.mpr ⟨wat_mem (n := 2053) rfl, List.forall_mem_cons.mpr ⟨wat_mem (n := 2062) rfl, List.forall_mem_cons.mpr ⟨wat_mem (n := 2063) rfl, List.forall_mem_cons.mpr ⟨wat_mem (n := 2064) rfl, List.forall_mem_cons.mpr ⟨wat_mem (n := 2065) rfl, List.forall_mem_cons.mpr ⟨wat_mem (n := 2072) rfl, List.forall_mem_cons.mpr ⟨wat_mem (n := 2084) rfl, List.forall_mem_cons.mpr ⟨wat_mem (n := 2085) rfl, List.forall_mem_cons.mpr ⟨wat_mem (n := 2086) rfl, List.forall_mem_cons.mpr ⟨wat_mem (n := 2107) rfl, List.forall_mem_cons.mpr ⟨wat_mem (n := 2108) rfl, List.forall_mem_cons.mpr ⟨wat_mem (n := 2113) rfl, List.forall_mem_cons.mpr ⟨wat_mem (n := 2132) rfl, List.forall_mem_cons.mpr ⟨wat_mem (n := 4121) rfl, List.forall_mem_cons.mpr ⟨wat_mem (n := 5027) rfl, List.forall_mem_cons.mpr ⟨wat_mem (n := 5029) rfl, List.forall_mem_cons.mpr ⟨wat_mem (n := 5030) rfl, List.forall_mem_cons.mpr ⟨wat_mem (n := 5031) rfl, List.forall_mem_cons.mpr ⟨wat_mem (n := 5032) rfl, List.forall_mem_cons.mpr ⟨wat_mem (n := 5033) rfl, List.forall_mem_cons.mpr ⟨wat_mem (n := 5034) rfl, List.forall_mem_cons.mpr ⟨wat_mem (n := 5035) rfl, List.forall_mem_cons.mpr ⟨wat_mem (n := 3176) rfl, List.forall_mem_cons.mpr ⟨wat_mem (n := 3185) rfl, List.forall_mem_cons.mpr ⟨wat_mem (n := 3186) rfl, List.forall_mem_cons.mpr ⟨wat_mem (n := 5118) rfl, List.forall_mem_cons.mpr ⟨wat_mem (n := 4114) rfl, List.forall_mem_cons.mpr ⟨wat_mem (n := 5123) rfl, List.forall_mem_cons.mpr ⟨wat_mem (n := 3235) rfl, List.forall_mem_cons.mpr ⟨wat_mem (n := 5132) rfl, List.forall_mem_cons.mpr ⟨wat_mem (n := 3224) rfl, List.forall_mem_cons.mpr ⟨wat_mem (n := 5158) rfl, List.forall_mem_cons.mpr ⟨wat_mem (n := 4097) rfl, List.forall_mem_cons.mpr ⟨wat_mem (n := 5163) rfl, List.forall_mem_cons.mpr ⟨wat_mem (n := 5230) rfl, List.forall_mem_cons.mpr ⟨wat_mem (n := 3236) rfl, List.forall_mem_cons.mpr ⟨wat_mem (n := 3238) rfl, List.forall_mem_cons.mpr ⟨wat_mem (n := 4013) rfl, List.forall_mem_cons.mpr ⟨wat_mem (n := 6019) rfl, List.forall_mem_cons.mpr ⟨wat_mem (n := 4057) rfl, List.forall_mem_cons.mpr ⟨wat_mem (n := 4058) rfl, List.forall_mem_cons.mpr ⟨wat_mem (n := 4071) rfl, List.forall_mem_cons.mpr ⟨wat_mem (n := 4073) rfl, List.forall_mem_cons.mpr ⟨wat_mem (n := 4083) rfl, List.forall_mem_cons.mpr ⟨wat_mem (n := 4084) rfl, List.forall_mem_cons.mpr ⟨wat_mem (n := 4116) rfl, List.forall_mem_cons.mpr ⟨wat_mem (n := 3106) rfl, List.forall_mem_cons.mpr ⟨wat_mem (n := 3141) rfl, List.forall_mem_cons.mpr ⟨wat_mem (n := 3198) rfl, List.forall_mem_cons.mpr ⟨wat_mem (n := 5036) rfl, fun _ h => absurd h List.not_mem_nil⟩⟩⟩⟩⟩⟩⟩⟩⟩⟩⟩⟩⟩⟩⟩⟩⟩⟩⟩⟩⟩⟩⟩⟩⟩⟩⟩⟩⟩⟩⟩⟩⟩⟩⟩⟩⟩⟩⟩⟩⟩⟩⟩⟩⟩⟩⟩⟩⟩⟩⟩⟩⟩
set_option maxRecDepth 100000 in
theorem mstr_D : mstrs.map (fun q => (q.1, q.2.1)) = strD.map (fun q => (q.1, q.2.1)) := by rfl
set_option maxRecDepth 100000 in
theorem RO9_str (hs : Nat → Int32) (len : Nat) (f : Nat → Int32) : ∀ (i : Nat) (q : String × Nat × List Nat), strD[i]? = some q → (RO9 hs len f)[2 * i]? = some (.inr (0, [.ref (1000001 + 2 * i), .int 0])) ∧ (RO9 hs len f)[2 * i + 1]? = some (.inl (0, q.2.2.length, .inl (strF q.2.2)))
  | 0, _, h => by cases h; exact ⟨rfl, rfl⟩
  | 1, _, h => by cases h; exact ⟨rfl, rfl⟩
  | 2, _, h => by cases h; exact ⟨rfl, rfl⟩
  | 3, _, h => by cases h; exact ⟨rfl, rfl⟩
  | 4, _, h => by cases h; exact ⟨rfl, rfl⟩
  | 5, _, h => by cases h; exact ⟨rfl, rfl⟩
  | 6, _, h => by cases h; exact ⟨rfl, rfl⟩
  | 7, _, h => by cases h; exact ⟨rfl, rfl⟩
  | 8, _, h => by cases h; exact ⟨rfl, rfl⟩
  | 9, _, h => by cases h; exact ⟨rfl, rfl⟩
  | 10, _, h => by cases h; exact ⟨rfl, rfl⟩
  | 11, _, h => by cases h; exact ⟨rfl, rfl⟩
  | 12, _, h => by cases h; exact ⟨rfl, rfl⟩
  | 13, _, h => by cases h; exact ⟨rfl, rfl⟩
  | 14, _, h => by cases h; exact ⟨rfl, rfl⟩
  | 15, _, h => by cases h; exact ⟨rfl, rfl⟩
  | 16, _, h => by cases h; exact ⟨rfl, rfl⟩
  | 17, _, h => by cases h; exact ⟨rfl, rfl⟩
  | 18, _, h => by cases h; exact ⟨rfl, rfl⟩
  | 19, _, h => by cases h; exact ⟨rfl, rfl⟩
  | 20, _, h => by cases h; exact ⟨rfl, rfl⟩
  | 21, _, h => by cases h; exact ⟨rfl, rfl⟩
  | 22, _, h => by cases h; exact ⟨rfl, rfl⟩
  | 23, _, h => by cases h; exact ⟨rfl, rfl⟩
  | 24, _, h => by cases h; exact ⟨rfl, rfl⟩
  | 25, _, h => by cases h; exact ⟨rfl, rfl⟩
  | 26, _, h => by cases h; exact ⟨rfl, rfl⟩
  | 27, _, h => by cases h; exact ⟨rfl, rfl⟩
  | 28, _, h => by cases h; exact ⟨rfl, rfl⟩
  | 29, _, h => by cases h; exact ⟨rfl, rfl⟩
  | 30, _, h => by cases h; exact ⟨rfl, rfl⟩
  | 31, _, h => by cases h; exact ⟨rfl, rfl⟩
  | 32, _, h => by cases h; exact ⟨rfl, rfl⟩
  | 33, _, h => by cases h; exact ⟨rfl, rfl⟩
  | 34, _, h => by cases h; exact ⟨rfl, rfl⟩
  | 35, _, h => by cases h; exact ⟨rfl, rfl⟩
  | 36, _, h => by cases h; exact ⟨rfl, rfl⟩
  | 37, _, h => by cases h; exact ⟨rfl, rfl⟩
  | 38, _, h => by cases h; exact ⟨rfl, rfl⟩
  | 39, _, h => by cases h; exact ⟨rfl, rfl⟩
  | 40, _, h => by cases h; exact ⟨rfl, rfl⟩
  | 41, _, h => by cases h; exact ⟨rfl, rfl⟩
  | 42, _, h => by cases h; exact ⟨rfl, rfl⟩
  | 43, _, h => by cases h; exact ⟨rfl, rfl⟩
  | 44, _, h => by cases h; exact ⟨rfl, rfl⟩
  | 45, _, h => by cases h; exact ⟨rfl, rfl⟩
  | 46, _, h => by cases h; exact ⟨rfl, rfl⟩
  | 47, _, h => by cases h; exact ⟨rfl, rfl⟩
  | 48, _, h => by cases h; exact ⟨rfl, rfl⟩
  | 49, _, h => by cases h; exact ⟨rfl, rfl⟩
  | 50, _, h => by cases h; exact ⟨rfl, rfl⟩
  | 51, _, h => by cases h; exact ⟨rfl, rfl⟩
  | 52, _, h => by cases h; exact ⟨rfl, rfl⟩
  | i + 53, _, h => by cases h
set_option maxRecDepth 100000 in
theorem RO9_len (hs : Nat → Int32) (len : Nat) (f : Nat → Int32) : (RO9 hs len f).length = 109 := rfl
set_option maxRecDepth 100000 in
theorem strD_len : strD.length = 53 := rfl
def onesL : List Nat := [48, 49, 50, 51, 52, 53, 54, 55, 56, 57, 48, 49, 50, 51, 52, 53, 54, 55, 56, 57, 48, 49, 50, 51, 52, 53, 54, 55, 56, 57, 48, 49, 50, 51, 52, 53, 54, 55, 56, 57, 48, 49, 50, 51, 52, 53, 54, 55, 56, 57, 48, 49, 50, 51, 52, 53, 54, 55, 56, 57, 48, 49, 50, 51, 52, 53, 54, 55, 56, 57, 48, 49, 50, 51, 52, 53, 54, 55, 56, 57, 48, 49, 50, 51, 52, 53, 54, 55, 56, 57, 48, 49, 50, 51, 52, 53, 54, 55, 56, 57]
def tensL : List Nat := [48, 48, 48, 48, 48, 48, 48, 48, 48, 48, 49, 49, 49, 49, 49, 49, 49, 49, 49, 49, 50, 50, 50, 50, 50, 50, 50, 50, 50, 50, 51, 51, 51, 51, 51, 51, 51, 51, 51, 51, 52, 52, 52, 52, 52, 52, 52, 52, 52, 52, 53, 53, 53, 53, 53, 53, 53, 53, 53, 53, 54, 54, 54, 54, 54, 54, 54, 54, 54, 54, 55, 55, 55, 55, 55, 55, 55, 55, 55, 55, 56, 56, 56, 56, 56, 56, 56, 56, 56, 56, 57, 57, 57, 57, 57, 57, 57, 57, 57, 57]
set_option maxRecDepth 100000 in
theorem RO9_dig (hs : Nat → Int32) (len : Nat) (f : Nat → Int32) : (RO9 hs len f)[106]? = some (.inl (0, 100, .inl (strF onesL))) ∧ (RO9 hs len f)[107]? = some (.inl (0, 100, .inl (strF tensL))) ∧ (RO9 hs len f)[108]? = some (.inl (1, len, .inl f)) := ⟨rfl, rfl, rfl⟩
set_option maxRecDepth 100000 in
theorem nar_Ones : narF[10]? = some (.arrayOf (.static "java/lang/Integer" "DigitOnes" "[B") .byte) ∧ narF[11]? = some (.eq (.length (.static "java/lang/Integer" "DigitOnes" "[B")) (.int (Int32.ofNat 100))) ∧ (narF.drop 12).take 100 = elC (.static "java/lang/Integer" "DigitOnes" "[B") 0 onesL := ⟨rfl, rfl, rfl⟩
set_option maxRecDepth 100000 in
theorem nar_Tens : narF[113]? = some (.arrayOf (.static "java/lang/Integer" "DigitTens" "[B") .byte) ∧ narF[114]? = some (.eq (.length (.static "java/lang/Integer" "DigitTens" "[B")) (.int (Int32.ofNat 100))) ∧ (narF.drop 115).take 100 = elC (.static "java/lang/Integer" "DigitTens" "[B") 0 tensL := ⟨rfl, rfl, rfl⟩
set_option maxRecDepth 100000 in
theorem nar_st : narF[2]? = some (.eq (.static "java/lang/String" "COMPACT_STRINGS" "Z") (.int 1)) ∧ narF[3]? = some (.isRef (.static "jdk/internal/util/Preconditions" "SIOOBE_FORMATTER" "Ljava/util/function/BiFunction;")) ∧ narF[7]? = some (.isRef (.static "java/lang/Throwable" "UNASSIGNED_STACK" "[Ljava/lang/StackTraceElement;")) ∧ narF[8]? = some (.isRef (.static "java/lang/Throwable" "SUPPRESSED_SENTINEL" "Ljava/util/List;")) := ⟨rfl, rfl, rfl, rfl⟩
set_option maxRecDepth 100000 in
theorem nar_cast : ∀ x y, x < 3 → y < 3 → x ≠ y → Cond.not (.castable (mexn x) (mexn y)) ∈ narF
  | 0, 0, _, _, h => absurd rfl h
  | 0, 1, _, _, _ => List.mem_of_getElem? (i := 222) rfl
  | 0, 2, _, _, _ => List.mem_of_getElem? (i := 241) rfl
  | 1, 0, _, _, _ => List.mem_of_getElem? (i := 231) rfl
  | 1, 1, _, _, h => absurd rfl h
  | 1, 2, _, _, _ => List.mem_of_getElem? (i := 240) rfl
  | 2, 0, _, _, _ => List.mem_of_getElem? (i := 232) rfl
  | 2, 1, _, _, _ => List.mem_of_getElem? (i := 223) rfl
  | 2, 2, _, _, h => absurd rfl h
  | 0, j + 3, _, h, _ => absurd h (by omega)
  | 1, j + 3, _, h, _ => absurd h (by omega)
  | 2, j + 3, _, h, _ => absurd h (by omega)
  | i + 3, _, h, _, _ => absurd h (by omega)
