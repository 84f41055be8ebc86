/-! the law's cases: questions -/
section LAW
variable {hs : Nat → Int32} {d len sb i c s : Nat} {f : Nat → Int32} {ext : List sh} {M : mM} {Q : mQ} {v6 v7 v8 v9 : Value}
theorem law_value (hI : Inv sb ext M) (hi : i + 6 ≤ len) (hlen : len ≤ 3072) (hK : Lcont (RO9 hs len f) (d + 30) Q ext i c s) : GoP (RO9 hs len f) (d + 30) 358 (lawL i v6 v7 v8 v9) [] (gW sb ext) M 406 c s Q := by
  obtain ⟨m, S, t, nx, cc, hT, hR, hw, hH⟩ := hI.parts
  have hm := hT.1.2.2.2.1
  have hS := hT.1.2.2.2.2.1
  have ht := hT.1.2.2.2.2.2
  refine wp_sound [412, 425, 2408] 90 _ _ _ _ _ _ _ ?_
  refine go_ald (j := i + 1) rfl (i_add i 1) (by omega) (by omega) ?_
  refine wp_sound [412, 425, 2408] 90 _ _ _ _ _ _ _ ?_
  refine w_value (N := M 149) hT hH.2.2.2.1 (fun M1 mc ms hF ho hmc hms => ?_)
  have e149 : M1 149 = M 149 := hF.1 149 (by omega) (by omega) (by omega) (by omega)
  have e153 : M1 153 = M 153 := hF.1 153 (by omega) (by omega) (by omega) (by omega)
  have e145 : M1 145 = M 145 := hF.1 145 (by omega) (by omega) (by omega) (by omega)
  refine go_ald (j := i + 1) rfl (i_add i 1) (by omega) (by omega) ?_
  refine wp_sound [412, 425, 2408] 90 _ _ _ _ _ _ _ ?_
  refine m_value e149 hR.1.1 (by rw [e145]; exact hH.2.2.2.2.1) (fun b M2 h3 hFM hb => ?_)
  have o157 : M2 157 = M1 157 := hFM.1 157 (by omega) (by omega) (by omega) (by omega)
  refine e_thrown.use ?_
  refine ⟨fun _ => ?_, fun h => absurd h3 h⟩
  refine ⟨fun h0 => ?_, fun h0 => ?_⟩
  · refine ⟨0, rfl, by omega, ?_⟩
    refine ⟨fun _ => ?_, fun h => absurd ?_ h⟩
    · exact hK _ _ _ _ _ _ _ _ _ (hI.fr (FrL.of hF hFM)) (by omega) (by omega)
    · rw [o157, ho h0, hb h0]; exact lcmp_self
  · exact hK _ _ _ _ _ _ _ _ _ (hI.fr (FrL.of hF hFM)) (by omega) (by omega)
theorem law_setting (hI : Inv sb ext M) (hi : i + 6 ≤ len) (hlen : len ≤ 3072) (hK : Lcont (RO9 hs len f) (d + 30) Q ext i c s) : GoP (RO9 hs len f) (d + 30) 358 (lawL i v6 v7 v8 v9) [] (gW sb ext) M 462 c s Q := by
  obtain ⟨m, S, t, nx, cc, hT, hR, hw, hH⟩ := hI.parts
  have hm := hT.1.2.2.2.1
  have hS := hT.1.2.2.2.2.1
  have ht := hT.1.2.2.2.2.2
  refine wp_sound [468, 481, 2408] 90 _ _ _ _ _ _ _ ?_
  refine go_ald (j := i + 1) rfl (i_add i 1) (by omega) (by omega) ?_
  refine wp_sound [468, 481, 2408] 90 _ _ _ _ _ _ _ ?_
  refine w_setting (N := M 149) hT (fun M1 mc ms hF ho hmc hms => ?_)
  have e149 : M1 149 = M 149 := hF.1 149 (by omega) (by omega) (by omega) (by omega)
  have e153 : M1 153 = M 153 := hF.1 153 (by omega) (by omega) (by omega) (by omega)
  have e145 : M1 145 = M 145 := hF.1 145 (by omega) (by omega) (by omega) (by omega)
  refine go_ald (j := i + 1) rfl (i_add i 1) (by omega) (by omega) ?_
  refine wp_sound [468, 481, 2408] 90 _ _ _ _ _ _ _ ?_
  refine m_setting e149 (fun b M2 h3 hFM hb => ?_)
  have o157 : M2 157 = M1 157 := hFM.1 157 (by omega) (by omega) (by omega) (by omega)
  refine e_thrown.use ?_
  refine ⟨fun _ => ?_, fun h => absurd h3 h⟩
  refine ⟨fun h0 => ?_, fun h0 => ?_⟩
  · refine ⟨0, rfl, by omega, ?_⟩
    refine ⟨fun _ => ?_, fun h => absurd ?_ h⟩
    · exact hK _ _ _ _ _ _ _ _ _ (hI.fr (FrL.of hF hFM)) (by omega) (by omega)
    · rw [o157, ho h0, hb h0]; exact lcmp_self
  · exact hK _ _ _ _ _ _ _ _ _ (hI.fr (FrL.of hF hFM)) (by omega) (by omega)
theorem law_count (hI : Inv sb ext M) (hi : i + 6 ≤ len) (hlen : len ≤ 3072) (hK : Lcont (RO9 hs len f) (d + 30) Q ext i c s) : GoP (RO9 hs len f) (d + 30) 358 (lawL i v6 v7 v8 v9) [] (gW sb ext) M 518 c s Q := by
  obtain ⟨m, S, t, nx, cc, hT, hR, hw, hH⟩ := hI.parts
  have hm := hT.1.2.2.2.1
  have hS := hT.1.2.2.2.2.1
  have ht := hT.1.2.2.2.2.2
  refine wp_sound [524, 537, 2408] 90 _ _ _ _ _ _ _ ?_
  refine go_ald (j := i + 1) rfl (i_add i 1) (by omega) (by omega) ?_
  refine wp_sound [524, 537, 2408] 90 _ _ _ _ _ _ _ ?_
  refine w_count (N := M 149) hT (fun M1 mc ms hF ho hmc hms => ?_)
  have e149 : M1 149 = M 149 := hF.1 149 (by omega) (by omega) (by omega) (by omega)
  have e153 : M1 153 = M 153 := hF.1 153 (by omega) (by omega) (by omega) (by omega)
  have e145 : M1 145 = M 145 := hF.1 145 (by omega) (by omega) (by omega) (by omega)
  refine go_ald (j := i + 1) rfl (i_add i 1) (by omega) (by omega) ?_
  refine wp_sound [524, 537, 2408] 90 _ _ _ _ _ _ _ ?_
  refine m_count e149 (fun b M2 h3 hFM hb => ?_)
  have o157 : M2 157 = M1 157 := hFM.1 157 (by omega) (by omega) (by omega) (by omega)
  refine e_thrown.use ?_
  refine ⟨fun _ => ?_, fun h => absurd h3 h⟩
  refine ⟨fun h0 => ?_, fun h0 => ?_⟩
  · refine ⟨0, rfl, by omega, ?_⟩
    refine ⟨fun _ => ?_, fun h => absurd ?_ h⟩
    · exact hK _ _ _ _ _ _ _ _ _ (hI.fr (FrL.of hF hFM)) (by omega) (by omega)
    · rw [o157, ho h0, hb h0]; exact lcmp_self
  · exact hK _ _ _ _ _ _ _ _ _ (hI.fr (FrL.of hF hFM)) (by omega) (by omega)
theorem law_mule (hI : Inv sb ext M) (hi : i + 6 ≤ len) (hlen : len ≤ 3072) (hK : Lcont (RO9 hs len f) (d + 30) Q ext i c s) : GoP (RO9 hs len f) (d + 30) 358 (lawL i v6 v7 v8 v9) [] (gW sb ext) M 574 c s Q := by
  obtain ⟨m, S, t, nx, cc, hT, hR, hw, hH⟩ := hI.parts
  have hm := hT.1.2.2.2.1
  have hS := hT.1.2.2.2.2.1
  have ht := hT.1.2.2.2.2.2
  refine wp_sound [580, 586, 599, 605, 2408] 90 _ _ _ _ _ _ _ ?_
  refine go_ald (j := i + 1) rfl (i_add i 1) (by omega) (by omega) ?_
  refine wp_sound [580, 586, 599, 605, 2408] 90 _ _ _ _ _ _ _ ?_
  refine go_ald (j := i + 2) rfl (i_add i 2) (by omega) (by omega) ?_
  refine wp_sound [580, 586, 599, 605, 2408] 90 _ _ _ _ _ _ _ ?_
  refine w_mule (N := M 149) hT hR.1.2.1 (fun M1 mc ms hF ho hmc hms => ?_)
  have e149 : M1 149 = M 149 := hF.1 149 (by omega) (by omega) (by omega) (by omega)
  have e153 : M1 153 = M 153 := hF.1 153 (by omega) (by omega) (by omega) (by omega)
  have e145 : M1 145 = M 145 := hF.1 145 (by omega) (by omega) (by omega) (by omega)
  refine go_ald (j := i + 1) rfl (i_add i 1) (by omega) (by omega) ?_
  refine wp_sound [580, 586, 599, 605, 2408] 90 _ _ _ _ _ _ _ ?_
  refine go_ald (j := i + 2) rfl (i_add i 2) (by omega) (by omega) ?_
  refine wp_sound [580, 586, 599, 605, 2408] 90 _ _ _ _ _ _ _ ?_
  refine m_mule e149 hS hm hT.1.2.1 hT.1.1 (fun b M2 h3 hFM hb => ?_)
  have o157 : M2 157 = M1 157 := hFM.1 157 (by omega) (by omega) (by omega) (by omega)
  refine e_thrown.use ?_
  refine ⟨fun _ => ?_, fun h => absurd h3 h⟩
  refine ⟨fun h0 => ?_, fun h0 => ?_⟩
  · refine ⟨0, rfl, by omega, ?_⟩
    refine ⟨fun _ => ?_, fun h => absurd ?_ h⟩
    · exact hK _ _ _ _ _ _ _ _ _ (hI.fr (FrL.of hF hFM)) (by omega) (by omega)
    · rw [o157, ho h0, hb h0]; exact lcmp_self
  · exact hK _ _ _ _ _ _ _ _ _ (hI.fr (FrL.of hF hFM)) (by omega) (by omega)
theorem law_nameByte (hI : Inv sb ext M) (hi : i + 6 ≤ len) (hlen : len ≤ 3072) (hK : Lcont (RO9 hs len f) (d + 30) Q ext i c s) : GoP (RO9 hs len f) (d + 30) 358 (lawL i v6 v7 v8 v9) [] (gW sb ext) M 642 c s Q := by
  obtain ⟨m, S, t, nx, cc, hT, hR, hw, hH⟩ := hI.parts
  have hm := hT.1.2.2.2.1
  have hS := hT.1.2.2.2.2.1
  have ht := hT.1.2.2.2.2.2
  refine wp_sound [648, 654, 667, 673, 2408] 90 _ _ _ _ _ _ _ ?_
  refine go_ald (j := i + 1) rfl (i_add i 1) (by omega) (by omega) ?_
  refine wp_sound [648, 654, 667, 673, 2408] 90 _ _ _ _ _ _ _ ?_
  refine go_ald (j := i + 2) rfl (i_add i 2) (by omega) (by omega) ?_
  refine wp_sound [648, 654, 667, 673, 2408] 90 _ _ _ _ _ _ _ ?_
  refine w_nameByte (N := M 149) hT (fun M1 mc ms hF ho hmc hms => ?_)
  have e149 : M1 149 = M 149 := hF.1 149 (by omega) (by omega) (by omega) (by omega)
  have e153 : M1 153 = M 153 := hF.1 153 (by omega) (by omega) (by omega) (by omega)
  have e145 : M1 145 = M 145 := hF.1 145 (by omega) (by omega) (by omega) (by omega)
  refine go_ald (j := i + 1) rfl (i_add i 1) (by omega) (by omega) ?_
  refine wp_sound [648, 654, 667, 673, 2408] 90 _ _ _ _ _ _ _ ?_
  refine go_ald (j := i + 2) rfl (i_add i 2) (by omega) (by omega) ?_
  refine wp_sound [648, 654, 667, 673, 2408] 90 _ _ _ _ _ _ _ ?_
  refine m_nameByte e149 hm hT.1.1 (fun b M2 h3 hFM hb => ?_)
  have o157 : M2 157 = M1 157 := hFM.1 157 (by omega) (by omega) (by omega) (by omega)
  refine e_thrown.use ?_
  refine ⟨fun _ => ?_, fun h => absurd h3 h⟩
  refine ⟨fun h0 => ?_, fun h0 => ?_⟩
  · refine ⟨0, rfl, by omega, ?_⟩
    refine ⟨fun _ => ?_, fun h => absurd ?_ h⟩
    · exact hK _ _ _ _ _ _ _ _ _ (hI.fr (FrL.of hF hFM)) (by omega) (by omega)
    · rw [o157, ho h0, hb h0]; exact lcmp_self
  · exact hK _ _ _ _ _ _ _ _ _ (hI.fr (FrL.of hF hFM)) (by omega) (by omega)
theorem law_sack (hI : Inv sb ext M) (hi : i + 6 ≤ len) (hlen : len ≤ 3072) (hK : Lcont (RO9 hs len f) (d + 30) Q ext i c s) : GoP (RO9 hs len f) (d + 30) 358 (lawL i v6 v7 v8 v9) [] (gW sb ext) M 710 c s Q := by
  obtain ⟨m, S, t, nx, cc, hT, hR, hw, hH⟩ := hI.parts
  have hm := hT.1.2.2.2.1
  have hS := hT.1.2.2.2.2.1
  have ht := hT.1.2.2.2.2.2
  refine wp_sound [716, 722, 735, 741, 2408] 90 _ _ _ _ _ _ _ ?_
  refine go_ald (j := i + 1) rfl (i_add i 1) (by omega) (by omega) ?_
  refine wp_sound [716, 722, 735, 741, 2408] 90 _ _ _ _ _ _ _ ?_
  refine go_ald (j := i + 2) rfl (i_add i 2) (by omega) (by omega) ?_
  refine wp_sound [716, 722, 735, 741, 2408] 90 _ _ _ _ _ _ _ ?_
  refine w_sack (N := M 149) hT (fun M1 mc ms hF ho hmc hms => ?_)
  have e149 : M1 149 = M 149 := hF.1 149 (by omega) (by omega) (by omega) (by omega)
  have e153 : M1 153 = M 153 := hF.1 153 (by omega) (by omega) (by omega) (by omega)
  have e145 : M1 145 = M 145 := hF.1 145 (by omega) (by omega) (by omega) (by omega)
  refine go_ald (j := i + 1) rfl (i_add i 1) (by omega) (by omega) ?_
  refine wp_sound [716, 722, 735, 741, 2408] 90 _ _ _ _ _ _ _ ?_
  refine go_ald (j := i + 2) rfl (i_add i 2) (by omega) (by omega) ?_
  refine wp_sound [716, 722, 735, 741, 2408] 90 _ _ _ _ _ _ _ ?_
  refine m_sack e149 hS hT.1.2.1 (fun b M2 h3 hFM hb => ?_)
  have o157 : M2 157 = M1 157 := hFM.1 157 (by omega) (by omega) (by omega) (by omega)
  refine e_thrown.use ?_
  refine ⟨fun _ => ?_, fun h => absurd h3 h⟩
  refine ⟨fun h0 => ?_, fun h0 => ?_⟩
  · refine ⟨0, rfl, by omega, ?_⟩
    refine ⟨fun _ => ?_, fun h => absurd ?_ h⟩
    · exact hK _ _ _ _ _ _ _ _ _ (hI.fr (FrL.of hF hFM)) (by omega) (by omega)
    · rw [o157, ho h0, hb h0]; exact lcmp_self
  · exact hK _ _ _ _ _ _ _ _ _ (hI.fr (FrL.of hF hFM)) (by omega) (by omega)
theorem law_stage (hI : Inv sb ext M) (hi : i + 6 ≤ len) (hlen : len ≤ 3072) (hK : Lcont (RO9 hs len f) (d + 30) Q ext i c s) : GoP (RO9 hs len f) (d + 30) 358 (lawL i v6 v7 v8 v9) [] (gW sb ext) M 778 c s Q := by
  obtain ⟨m, S, t, nx, cc, hT, hR, hw, hH⟩ := hI.parts
  have hm := hT.1.2.2.2.1
  have hS := hT.1.2.2.2.2.1
  have ht := hT.1.2.2.2.2.2
  refine wp_sound [784, 790, 803, 809, 2408] 90 _ _ _ _ _ _ _ ?_
  refine go_ald (j := i + 1) rfl (i_add i 1) (by omega) (by omega) ?_
  refine wp_sound [784, 790, 803, 809, 2408] 90 _ _ _ _ _ _ _ ?_
  refine go_ald (j := i + 2) rfl (i_add i 2) (by omega) (by omega) ?_
  refine wp_sound [784, 790, 803, 809, 2408] 90 _ _ _ _ _ _ _ ?_
  refine w_stage (N := M 149) hT (fun M1 mc ms hF ho hmc hms => ?_)
  have e149 : M1 149 = M 149 := hF.1 149 (by omega) (by omega) (by omega) (by omega)
  have e153 : M1 153 = M 153 := hF.1 153 (by omega) (by omega) (by omega) (by omega)
  have e145 : M1 145 = M 145 := hF.1 145 (by omega) (by omega) (by omega) (by omega)
  refine go_ald (j := i + 1) rfl (i_add i 1) (by omega) (by omega) ?_
  refine wp_sound [784, 790, 803, 809, 2408] 90 _ _ _ _ _ _ _ ?_
  refine go_ald (j := i + 2) rfl (i_add i 2) (by omega) (by omega) ?_
  refine wp_sound [784, 790, 803, 809, 2408] 90 _ _ _ _ _ _ _ ?_
  refine m_stage e149 ht hT.1.2.2.1 (fun b M2 h3 hFM hb => ?_)
  have o157 : M2 157 = M1 157 := hFM.1 157 (by omega) (by omega) (by omega) (by omega)
  refine e_thrown.use ?_
  refine ⟨fun _ => ?_, fun h => absurd h3 h⟩
  refine ⟨fun h0 => ?_, fun h0 => ?_⟩
  · refine ⟨0, rfl, by omega, ?_⟩
    refine ⟨fun _ => ?_, fun h => absurd ?_ h⟩
    · exact hK _ _ _ _ _ _ _ _ _ (hI.fr (FrL.of hF hFM)) (by omega) (by omega)
    · rw [o157, ho h0, hb h0]; exact lcmp_self
  · exact hK _ _ _ _ _ _ _ _ _ (hI.fr (FrL.of hF hFM)) (by omega) (by omega)
theorem law_whyNot (hI : Inv sb ext M) (hi : i + 6 ≤ len) (hlen : len ≤ 3072) (hK : Lcont (RO9 hs len f) (d + 30) Q ext i c s) : GoP (RO9 hs len f) (d + 30) 358 (lawL i v6 v7 v8 v9) [] (gW sb ext) M 859 c s Q := by
  obtain ⟨m, S, t, nx, cc, hT, hR, hw, hH⟩ := hI.parts
  have hm := hT.1.2.2.2.1
  have hS := hT.1.2.2.2.2.1
  have ht := hT.1.2.2.2.2.2
  refine wp_sound [865, 871, 884, 890, 2408] 90 _ _ _ _ _ _ _ ?_
  refine go_ald (j := i + 1) rfl (i_add i 1) (by omega) (by omega) ?_
  refine wp_sound [865, 871, 884, 890, 2408] 90 _ _ _ _ _ _ _ ?_
  refine go_ald (j := i + 2) rfl (i_add i 2) (by omega) (by omega) ?_
  refine wp_sound [865, 871, 884, 890, 2408] 90 _ _ _ _ _ _ _ ?_
  refine w_whyNot (N := M 149) hT hR.1.2.1 (fun M1 mc ms hF ho hmc hms => ?_)
  have e149 : M1 149 = M 149 := hF.1 149 (by omega) (by omega) (by omega) (by omega)
  have e153 : M1 153 = M 153 := hF.1 153 (by omega) (by omega) (by omega) (by omega)
  have e145 : M1 145 = M 145 := hF.1 145 (by omega) (by omega) (by omega) (by omega)
  refine go_ald (j := i + 1) rfl (i_add i 1) (by omega) (by omega) ?_
  refine wp_sound [865, 871, 884, 890, 2408] 90 _ _ _ _ _ _ _ ?_
  refine go_ald (j := i + 2) rfl (i_add i 2) (by omega) (by omega) ?_
  refine wp_sound [865, 871, 884, 890, 2408] 90 _ _ _ _ _ _ _ ?_
  refine m_whyNot e149 hS hm hT.1.2.1 hT.1.1 (fun b M2 h3 hFM hb => ?_)
  have o157 : M2 157 = M1 157 := hFM.1 157 (by omega) (by omega) (by omega) (by omega)
  refine e_thrown.use ?_
  refine ⟨fun _ => ?_, fun h => absurd h3 h⟩
  refine ⟨fun h0 => ?_, fun h0 => ?_⟩
  · refine ⟨0, rfl, by omega, ?_⟩
    refine ⟨fun _ => ?_, fun h => absurd ?_ h⟩
    · exact hK _ _ _ _ _ _ _ _ _ (hI.fr (FrL.of hF hFM)) (by omega) (by omega)
    · rw [o157, ho h0, hb h0]; exact lcmp_self
  · exact hK _ _ _ _ _ _ _ _ _ (hI.fr (FrL.of hF hFM)) (by omega) (by omega)
theorem law_whyNoTrip (hI : Inv sb ext M) (hi : i + 6 ≤ len) (hlen : len ≤ 3072) (hK : Lcont (RO9 hs len f) (d + 30) Q ext i c s) : GoP (RO9 hs len f) (d + 30) 358 (lawL i v6 v7 v8 v9) [] (gW sb ext) M 927 c s Q := by
  obtain ⟨m, S, t, nx, cc, hT, hR, hw, hH⟩ := hI.parts
  have hm := hT.1.2.2.2.1
  have hS := hT.1.2.2.2.2.1
  have ht := hT.1.2.2.2.2.2
  refine wp_sound [933, 946, 2408] 90 _ _ _ _ _ _ _ ?_
  refine go_ald (j := i + 1) rfl (i_add i 1) (by omega) (by omega) ?_
  refine wp_sound [933, 946, 2408] 90 _ _ _ _ _ _ _ ?_
  refine w_whyNoTrip (N := M 149) hT hR.1.2.1 (fun M1 mc ms hF ho hmc hms => ?_)
  have e149 : M1 149 = M 149 := hF.1 149 (by omega) (by omega) (by omega) (by omega)
  have e153 : M1 153 = M 153 := hF.1 153 (by omega) (by omega) (by omega) (by omega)
  have e145 : M1 145 = M 145 := hF.1 145 (by omega) (by omega) (by omega) (by omega)
  refine go_ald (j := i + 1) rfl (i_add i 1) (by omega) (by omega) ?_
  refine wp_sound [933, 946, 2408] 90 _ _ _ _ _ _ _ ?_
  refine m_whyNoTrip e149 hS hm hT.1.2.1 hT.1.1 (fun b M2 h3 hFM hb => ?_)
  have o157 : M2 157 = M1 157 := hFM.1 157 (by omega) (by omega) (by omega) (by omega)
  refine e_thrown.use ?_
  refine ⟨fun _ => ?_, fun h => absurd h3 h⟩
  refine ⟨fun h0 => ?_, fun h0 => ?_⟩
  · refine ⟨0, rfl, by omega, ?_⟩
    refine ⟨fun _ => ?_, fun h => absurd ?_ h⟩
    · exact hK _ _ _ _ _ _ _ _ _ (hI.fr (FrL.of hF hFM)) (by omega) (by omega)
    · rw [o157, ho h0, hb h0]; exact lcmp_self
  · exact hK _ _ _ _ _ _ _ _ _ (hI.fr (FrL.of hF hFM)) (by omega) (by omega)
theorem law_fate (hI : Inv sb ext M) (hi : i + 6 ≤ len) (hlen : len ≤ 3072) (hK : Lcont (RO9 hs len f) (d + 30) Q ext i c s) : GoP (RO9 hs len f) (d + 30) 358 (lawL i v6 v7 v8 v9) [] (gW sb ext) M 996 c s Q := by
  obtain ⟨m, S, t, nx, cc, hT, hR, hw, hH⟩ := hI.parts
  have hm := hT.1.2.2.2.1
  have hS := hT.1.2.2.2.2.1
  have ht := hT.1.2.2.2.2.2
  refine wp_sound [1002, 1015, 2408] 90 _ _ _ _ _ _ _ ?_
  refine go_ald (j := i + 1) rfl (i_add i 1) (by omega) (by omega) ?_
  refine wp_sound [1002, 1015, 2408] 90 _ _ _ _ _ _ _ ?_
  refine w_fate (N := M 149) (G0 := M 153) hT hR.1 hw (fun M1 mc ms hF ho hmc hms => ?_)
  have e149 : M1 149 = M 149 := hF.1 149 (by omega) (by omega) (by omega) (by omega)
  have e153 : M1 153 = M 153 := hF.1 153 (by omega) (by omega) (by omega) (by omega)
  have e145 : M1 145 = M 145 := hF.1 145 (by omega) (by omega) (by omega) (by omega)
  refine go_ald (j := i + 1) rfl (i_add i 1) (by omega) (by omega) ?_
  refine wp_sound [1002, 1015, 2408] 90 _ _ _ _ _ _ _ ?_
  refine m_fate e149 e153 hR.1.1 (fun b M2 h3 hFM hb => ?_)
  have o157 : M2 157 = M1 157 := hFM.1 157 (by omega) (by omega) (by omega) (by omega)
  refine e_thrown.use ?_
  refine ⟨fun _ => ?_, fun h => absurd h3 h⟩
  refine ⟨fun h0 => ?_, fun h0 => ?_⟩
  · refine ⟨0, rfl, by omega, ?_⟩
    refine ⟨fun _ => ?_, fun h => absurd ?_ h⟩
    · exact hK _ _ _ _ _ _ _ _ _ (hI.fr (FrL.of hF hFM)) (by omega) (by omega)
    · rw [o157, ho h0, hb h0]; exact lcmp_self
  · exact hK _ _ _ _ _ _ _ _ _ (hI.fr (FrL.of hF hFM)) (by omega) (by omega)
theorem law_tiredBy (hI : Inv sb ext M) (hi : i + 6 ≤ len) (hlen : len ≤ 3072) (hK : Lcont (RO9 hs len f) (d + 30) Q ext i c s) : GoP (RO9 hs len f) (d + 30) 358 (lawL i v6 v7 v8 v9) [] (gW sb ext) M 1052 c s Q := by
  obtain ⟨m, S, t, nx, cc, hT, hR, hw, hH⟩ := hI.parts
  have hm := hT.1.2.2.2.1
  have hS := hT.1.2.2.2.2.1
  have ht := hT.1.2.2.2.2.2
  refine wp_sound [1058, 1071, 2408] 90 _ _ _ _ _ _ _ ?_
  refine go_ald (j := i + 1) rfl (i_add i 1) (by omega) (by omega) ?_
  refine wp_sound [1058, 1071, 2408] 90 _ _ _ _ _ _ _ ?_
  refine w_tiredBy (N := M 149) (G0 := M 153) hT hR.1 hw (fun M1 mc ms hF ho hmc hms => ?_)
  have e149 : M1 149 = M 149 := hF.1 149 (by omega) (by omega) (by omega) (by omega)
  have e153 : M1 153 = M 153 := hF.1 153 (by omega) (by omega) (by omega) (by omega)
  have e145 : M1 145 = M 145 := hF.1 145 (by omega) (by omega) (by omega) (by omega)
  refine go_ald (j := i + 1) rfl (i_add i 1) (by omega) (by omega) ?_
  refine wp_sound [1058, 1071, 2408] 90 _ _ _ _ _ _ _ ?_
  refine m_tiredBy e149 e153 hR.1.1 (fun b M2 h3 hFM hb => ?_)
  have o157 : M2 157 = M1 157 := hFM.1 157 (by omega) (by omega) (by omega) (by omega)
  refine e_thrown.use ?_
  refine ⟨fun _ => ?_, fun h => absurd h3 h⟩
  refine ⟨fun h0 => ?_, fun h0 => ?_⟩
  · refine ⟨0, rfl, by omega, ?_⟩
    refine ⟨fun _ => ?_, fun h => absurd ?_ h⟩
    · exact hK _ _ _ _ _ _ _ _ _ (hI.fr (FrL.of hF hFM)) (by omega) (by omega)
    · rw [o157, ho h0, hb h0]; exact lcmp_self
  · exact hK _ _ _ _ _ _ _ _ _ (hI.fr (FrL.of hF hFM)) (by omega) (by omega)
theorem law_bestWorth (hI : Inv sb ext M) (hi : i + 6 ≤ len) (hlen : len ≤ 3072) (hK : Lcont (RO9 hs len f) (d + 30) Q ext i c s) : GoP (RO9 hs len f) (d + 30) 358 (lawL i v6 v7 v8 v9) [] (gW sb ext) M 1108 c s Q := by
  obtain ⟨m, S, t, nx, cc, hT, hR, hw, hH⟩ := hI.parts
  have hm := hT.1.2.2.2.1
  have hS := hT.1.2.2.2.2.1
  have ht := hT.1.2.2.2.2.2
  refine wp_sound [1114, 1127, 2408] 90 _ _ _ _ _ _ _ ?_
  refine go_ald (j := i + 1) rfl (i_add i 1) (by omega) (by omega) ?_
  refine wp_sound [1114, 1127, 2408] 90 _ _ _ _ _ _ _ ?_
  refine w_bestWorth (N := M 149) hT hR.1 hR.2.2.1 (fun M1 mc ms hF ho hmc hms => ?_)
  have e149 : M1 149 = M 149 := hF.1 149 (by omega) (by omega) (by omega) (by omega)
  have e153 : M1 153 = M 153 := hF.1 153 (by omega) (by omega) (by omega) (by omega)
  have e145 : M1 145 = M 145 := hF.1 145 (by omega) (by omega) (by omega) (by omega)
  refine go_ald (j := i + 1) rfl (i_add i 1) (by omega) (by omega) ?_
  refine wp_sound [1114, 1127, 2408] 90 _ _ _ _ _ _ _ ?_
  refine m_bestWorth e149 hS hm hT.1.2.1 hT.1.1 hR.1.2.2.1 hR.2.2.1 (fun b M2 h3 hFM hb => ?_)
  have o157 : M2 157 = M1 157 := hFM.1 157 (by omega) (by omega) (by omega) (by omega)
  refine e_thrown.use ?_
  refine ⟨fun _ => ?_, fun h => absurd h3 h⟩
  refine ⟨fun h0 => ?_, fun h0 => ?_⟩
  · refine ⟨0, rfl, by omega, ?_⟩
    refine ⟨fun _ => ?_, fun h => absurd ?_ h⟩
    · exact hK _ _ _ _ _ _ _ _ _ (hI.fr (FrL.of hF hFM)) (by omega) (by omega)
    · rw [o157, ho h0, hb h0]; exact lcmp_self
  · exact hK _ _ _ _ _ _ _ _ _ (hI.fr (FrL.of hF hFM)) (by omega) (by omega)
theorem law_bestSack (hI : Inv sb ext M) (hi : i + 6 ≤ len) (hlen : len ≤ 3072) (hK : Lcont (RO9 hs len f) (d + 30) Q ext i c s) : GoP (RO9 hs len f) (d + 30) 358 (lawL i v6 v7 v8 v9) [] (gW sb ext) M 1164 c s Q := by
  obtain ⟨m, S, t, nx, cc, hT, hR, hw, hH⟩ := hI.parts
  have hm := hT.1.2.2.2.1
  have hS := hT.1.2.2.2.2.1
  have ht := hT.1.2.2.2.2.2
  refine wp_sound [1170, 1183, 2408] 90 _ _ _ _ _ _ _ ?_
  refine go_ald (j := i + 1) rfl (i_add i 1) (by omega) (by omega) ?_
  refine wp_sound [1170, 1183, 2408] 90 _ _ _ _ _ _ _ ?_
  refine w_bestSack (N := M 149) hT hR.1.2.1 (fun M1 mc ms hF ho hmc hms => ?_)
  have e149 : M1 149 = M 149 := hF.1 149 (by omega) (by omega) (by omega) (by omega)
  have e153 : M1 153 = M 153 := hF.1 153 (by omega) (by omega) (by omega) (by omega)
  have e145 : M1 145 = M 145 := hF.1 145 (by omega) (by omega) (by omega) (by omega)
  refine go_ald (j := i + 1) rfl (i_add i 1) (by omega) (by omega) ?_
  refine wp_sound [1170, 1183, 2408] 90 _ _ _ _ _ _ _ ?_
  refine m_bestSack e149 hS hm hT.1.2.1 hT.1.1 (fun b M2 h3 hFM hb => ?_)
  have o157 : M2 157 = M1 157 := hFM.1 157 (by omega) (by omega) (by omega) (by omega)
  refine e_thrown.use ?_
  refine ⟨fun _ => ?_, fun h => absurd h3 h⟩
  refine ⟨fun h0 => ?_, fun h0 => ?_⟩
  · refine ⟨0, rfl, by omega, ?_⟩
    refine ⟨fun _ => ?_, fun h => absurd ?_ h⟩
    · exact hK _ _ _ _ _ _ _ _ _ (hI.fr (FrL.of hF hFM)) (by omega) (by omega)
    · rw [o157, ho h0, hb h0]; exact lcmp_self
  · exact hK _ _ _ _ _ _ _ _ _ (hI.fr (FrL.of hF hFM)) (by omega) (by omega)
theorem law_lighter (hI : Inv sb ext M) (hi : i + 6 ≤ len) (hlen : len ≤ 3072) (hK : Lcont (RO9 hs len f) (d + 30) Q ext i c s) : GoP (RO9 hs len f) (d + 30) 358 (lawL i v6 v7 v8 v9) [] (gW sb ext) M 1220 c s Q := by
  obtain ⟨m, S, t, nx, cc, hT, hR, hw, hH⟩ := hI.parts
  have hm := hT.1.2.2.2.1
  have hS := hT.1.2.2.2.2.1
  have ht := hT.1.2.2.2.2.2
  refine wp_sound [1226, 1239, 2408] 90 _ _ _ _ _ _ _ ?_
  refine go_ald (j := i + 1) rfl (i_add i 1) (by omega) (by omega) ?_
  refine wp_sound [1226, 1239, 2408] 90 _ _ _ _ _ _ _ ?_
  refine w_lighter (N := M 149) hT hR.1.2.1 hR.1.2.2.1 (fun M1 mc ms hF ho hmc hms => ?_)
  have e149 : M1 149 = M 149 := hF.1 149 (by omega) (by omega) (by omega) (by omega)
  have e153 : M1 153 = M 153 := hF.1 153 (by omega) (by omega) (by omega) (by omega)
  have e145 : M1 145 = M 145 := hF.1 145 (by omega) (by omega) (by omega) (by omega)
  refine go_ald (j := i + 1) rfl (i_add i 1) (by omega) (by omega) ?_
  refine wp_sound [1226, 1239, 2408] 90 _ _ _ _ _ _ _ ?_
  refine m_lighter e149 hS hm hT.1.2.1 hT.1.1 (fun b M2 h3 hFM hb => ?_)
  have o157 : M2 157 = M1 157 := hFM.1 157 (by omega) (by omega) (by omega) (by omega)
  refine e_thrown.use ?_
  refine ⟨fun _ => ?_, fun h => absurd h3 h⟩
  refine ⟨fun h0 => ?_, fun h0 => ?_⟩
  · refine ⟨0, rfl, by omega, ?_⟩
    refine ⟨fun _ => ?_, fun h => absurd ?_ h⟩
    · exact hK _ _ _ _ _ _ _ _ _ (hI.fr (FrL.of hF hFM)) (by omega) (by omega)
    · rw [o157, ho h0, hb h0]; exact lcmp_self
  · exact hK _ _ _ _ _ _ _ _ _ (hI.fr (FrL.of hF hFM)) (by omega) (by omega)
theorem law_freshIn (hI : Inv sb ext M) (hi : i + 6 ≤ len) (hlen : len ≤ 3072) (hK : Lcont (RO9 hs len f) (d + 30) Q ext i c s) : GoP (RO9 hs len f) (d + 30) 358 (lawL i v6 v7 v8 v9) [] (gW sb ext) M 1276 c s Q := by
  obtain ⟨m, S, t, nx, cc, hT, hR, hw, hH⟩ := hI.parts
  have hm := hT.1.2.2.2.1
  have hS := hT.1.2.2.2.2.1
  have ht := hT.1.2.2.2.2.2
  refine wp_sound [1282, 1295, 2408] 90 _ _ _ _ _ _ _ ?_
  refine go_ald (j := i + 1) rfl (i_add i 1) (by omega) (by omega) ?_
  refine wp_sound [1282, 1295, 2408] 90 _ _ _ _ _ _ _ ?_
  refine w_freshIn (N := M 149) hT hR.1 (fun M1 mc ms hF ho hmc hms => ?_)
  have e149 : M1 149 = M 149 := hF.1 149 (by omega) (by omega) (by omega) (by omega)
  have e153 : M1 153 = M 153 := hF.1 153 (by omega) (by omega) (by omega) (by omega)
  have e145 : M1 145 = M 145 := hF.1 145 (by omega) (by omega) (by omega) (by omega)
  refine go_ald (j := i + 1) rfl (i_add i 1) (by omega) (by omega) ?_
  refine wp_sound [1282, 1295, 2408] 90 _ _ _ _ _ _ _ ?_
  refine m_freshIn e149 hm hT.1.1 (fun b M2 h3 hFM hb => ?_)
  have o157 : M2 157 = M1 157 := hFM.1 157 (by omega) (by omega) (by omega) (by omega)
  refine e_thrown.use ?_
  refine ⟨fun _ => ?_, fun h => absurd h3 h⟩
  refine ⟨fun h0 => ?_, fun h0 => ?_⟩
  · refine ⟨0, rfl, by omega, ?_⟩
    refine ⟨fun _ => ?_, fun h => absurd ?_ h⟩
    · exact hK _ _ _ _ _ _ _ _ _ (hI.fr (FrL.of hF hFM)) (by omega) (by omega)
    · rw [o157, ho h0, hb h0]; exact lcmp_self
  · exact hK _ _ _ _ _ _ _ _ _ (hI.fr (FrL.of hF hFM)) (by omega) (by omega)
theorem law_deepest (hI : Inv sb ext M) (hi : i + 6 ≤ len) (hlen : len ≤ 3072) (hK : Lcont (RO9 hs len f) (d + 30) Q ext i c s) : GoP (RO9 hs len f) (d + 30) 358 (lawL i v6 v7 v8 v9) [] (gW sb ext) M 1332 c s Q := by
  obtain ⟨m, S, t, nx, cc, hT, hR, hw, hH⟩ := hI.parts
  have hm := hT.1.2.2.2.1
  have hS := hT.1.2.2.2.2.1
  have ht := hT.1.2.2.2.2.2
  refine wp_sound [1338, 1351, 2408] 90 _ _ _ _ _ _ _ ?_
  refine go_ald (j := i + 1) rfl (i_add i 1) (by omega) (by omega) ?_
  refine wp_sound [1338, 1351, 2408] 90 _ _ _ _ _ _ _ ?_
  refine w_deepest (N := M 149) hT hR.1.2.1 (fun M1 mc ms hF ho hmc hms => ?_)
  have e149 : M1 149 = M 149 := hF.1 149 (by omega) (by omega) (by omega) (by omega)
  have e153 : M1 153 = M 153 := hF.1 153 (by omega) (by omega) (by omega) (by omega)
  have e145 : M1 145 = M 145 := hF.1 145 (by omega) (by omega) (by omega) (by omega)
  refine go_ald (j := i + 1) rfl (i_add i 1) (by omega) (by omega) ?_
  refine wp_sound [1338, 1351, 2408] 90 _ _ _ _ _ _ _ ?_
  refine m_deepest e149 hS hm hT.1.2.1 hT.1.1 (fun b M2 h3 hFM hb => ?_)
  have o157 : M2 157 = M1 157 := hFM.1 157 (by omega) (by omega) (by omega) (by omega)
  refine e_thrown.use ?_
  refine ⟨fun _ => ?_, fun h => absurd h3 h⟩
  refine ⟨fun h0 => ?_, fun h0 => ?_⟩
  · refine ⟨0, rfl, by omega, ?_⟩
    refine ⟨fun _ => ?_, fun h => absurd ?_ h⟩
    · exact hK _ _ _ _ _ _ _ _ _ (hI.fr (FrL.of hF hFM)) (by omega) (by omega)
    · rw [o157, ho h0, hb h0]; exact lcmp_self
  · exact hK _ _ _ _ _ _ _ _ _ (hI.fr (FrL.of hF hFM)) (by omega) (by omega)
end LAW
