/-! the JDK's members over texts -/
theorem tk_minN {n c : Nat} (h : n ≤ c) (hc : c < 2 ^ 31) : tk_min (nI n) (nI c >>> (0 &&& 31)) = nI n := by
  rw [show (nI c >>> ((0 : Int32) &&& 31)) = nI c from sb_shr0 (nI c)]
  unfold tk_min
  rw [if_neg (nI_nlt h hc)]
theorem ch_of {x : Int32} {t : Nat} (h : x = nI t) (ht : t < 128) : ((x &&& 255).toUInt32 % 65536).toInt32 = nI t := by
  subst h
  exact (by decide +kernel : ∀ t : Fin 128, (((nI t.val) &&& 255).toUInt32 % 65536).toInt32 = nI t.val) ⟨t, ht⟩
theorem nl_max {c g : Nat} (hc : c < 2 ^ 28) (hg : g ≤ c + 2) : nI c + tk_max (nI g) (nI (c + 2)) = nI (2 * c + 2) := by
  have e : tk_max (nI g) (nI (c + 2)) = nI (c + 2) := by
    unfold tk_max
    by_cases h : nI g < nI (c + 2)
    · rw [if_pos h]
    · rw [if_neg h]
      have : ¬ g < c + 2 := fun q => h (nI_lt q (by omega))
      rw [show g = c + 2 by omega]
  rw [e, nI_add]
  congr 1
  omega
theorem ens_le {m c : Nat} (h : m ≤ c) (hc : c < 2 ^ 28) : nI m - nI c ≤ 0 := by
  rw [Int32.le_iff_toInt_le, pk_sub_toInt (by omega) (by omega), Int32.toInt_zero]
  omega
theorem ens_nle {m c : Nat} (h : c < m) (hm : m < 2 ^ 29) : ¬ nI m - nI c ≤ 0 := by
  rw [Int32.le_iff_toInt_le, pk_sub_toInt (by omega) (by omega), Int32.toInt_zero]
  omega
theorem ch_nar {t : Nat} (ht : t < 128) : narrow .char (.int (nI t)) = .int (nI t) := (by decide +kernel : ∀ t : Fin 128, narrow .char (.int (nI t.val)) = .int (nI t.val)) ⟨t, ht⟩
set_option maxHeartbeats 400000 in
/-- StringLatin1.canEncode -/
theorem c_J1_canEncode_fc78d (l : Launch) (D : va_G) (cy : Nat → ClassId) (A : Nat → Prop) (sad : Nat → Nat) (Wp : Heap → Prop) (c : Nat) (hc : c < 128) : Met l yJ1_canEncode_fc78d (wsA yJ1_canEncode_fc78d cJ1_canEncode_fc78d 1 (some .boolean)) ({ frames := 0, cells := 0, slots := 0, locals := 0 }) (PcH D cy A sad Wp [.int (nI c)]) (QiP A Wp (fun r => r = 1)) 0 0 A := by
  refine met_ofP (fun _ => 0) [(0, .int (nI c))] (by decide +kernel) (Nat.le_of_ble_eq_true rfl) rfl ?_
  intro G C hl hR hL hD hcy hA had hsa hr hQ
  subst hD hcy hA hsa hl
  refine g_iload_n C dJ1_canEncode_fc78d_0 0 rfl ?_
  refine g_sipush C dJ1_canEncode_fc78d_1 (v := 255) (by decide) ?_
  refine g_icmp_gt C dJ1_canEncode_fc78d_4 (tgt := 11) (by decide) (fun c_4 => absurd c_4 (nI_nlt (a := 255) (b := c) (by omega) (by omega))) (fun c_4 => ?_)
  refine g_iconst C dJ1_canEncode_fc78d_7 (v := 1) (by decide) ?_
  refine g_goto C dJ1_canEncode_fc78d_8 (tgt := 12) (by decide) ?_
  refine g_zretP C hr (by decide) hQ (by decide) (by decide) dJ1_canEncode_fc78d_12 ?_
  exact (by first | with_reducible rfl | (first | with_reducible rfl | (simp only [sa_ap, si_ap, si_sa, sa_sa, sa_3, sa_4, sa_5, sa_6, sa_7, sa_8]; done) | (simp [sa_ap, si_ap, si_sa, sa_sa, sa_3, sa_4, sa_5, sa_6, sa_7, sa_8]; done)))

set_option maxHeartbeats 400000 in
/-- Preconditions.checkIndex -/
theorem c_J3_checkIndex_8e157 (l : Launch) (D : va_G) (cy : Nat → ClassId) (A : Nat → Prop) (sad : Nat → Nat) (Wp : Heap → Prop) (i z v : Nat) (hi : i < z) (hz : z < 2 ^ 31) : Met l yJ3_checkIndex_8e157 (wsA yJ3_checkIndex_8e157 cJ3_checkIndex_8e157 3 (some .int)) ({ frames := 0, cells := 0, slots := 0, locals := 0 }) (PcH D cy A sad Wp [.int (nI i), .int (nI z), .ref v]) (QiP A Wp (fun r => r = nI i)) 0 0 A := by
  refine met_ofP (fun _ => 0) [(0, .int (nI i)), (1, .int (nI z)), (2, .ref v)] (by decide +kernel) (Nat.le_of_ble_eq_true rfl) rfl ?_
  intro G C hl hR hL hD hcy hA had hsa hr hQ
  subst hD hcy hA hsa hl
  refine g_iload_n C dJ3_checkIndex_8e157_0 0 rfl ?_
  refine g_if_lt C dJ3_checkIndex_8e157_1 (tgt := 9) (by decide) (fun c_1 => absurd c_1 (nI_pos (by omega))) (fun c_1 => ?_)
  refine g_iload_n C dJ3_checkIndex_8e157_4 0 rfl ?_
  refine g_iload_n C dJ3_checkIndex_8e157_5 1 rfl ?_
  refine g_icmp_lt C dJ3_checkIndex_8e157_6 (tgt := 16) (by decide) (fun c_6 => ?_) (fun c_6 => absurd (nI_lt hi hz) c_6)
  refine g_iload_n C dJ3_checkIndex_8e157_16 0 rfl ?_
  refine g_iretP C hr hQ (by decide) (by decide) dJ3_checkIndex_8e157_17 ?_
  exact (by first | with_reducible rfl | (first | with_reducible rfl | (simp only [sa_ap, si_ap, si_sa, sa_sa, sa_3, sa_4, sa_5, sa_6, sa_7, sa_8]; done) | (simp [sa_ap, si_ap, si_sa, sa_sa, sa_3, sa_4, sa_5, sa_6, sa_7, sa_8]; done)))

set_option maxHeartbeats 400000 in
/-- Preconditions.checkIndex -/
theorem c_J3_checkIndex_n (l : Launch) (D : va_G) (cy : Nat → ClassId) (A : Nat → Prop) (sad : Nat → Nat) (Wp : Heap → Prop) (i z : Nat) (hi : i < z) (hz : z < 2 ^ 31) : Met l yJ3_checkIndex_8e157 (wsA yJ3_checkIndex_8e157 cJ3_checkIndex_8e157 3 (some .int)) ({ frames := 0, cells := 0, slots := 0, locals := 0 }) (PcH D cy A sad Wp [.int (nI i), .int (nI z), .null]) (QiP A Wp (fun r => r = nI i)) 0 0 A := by
  refine met_ofP (fun _ => 0) [(0, .int (nI i)), (1, .int (nI z)), (2, .null)] (by decide +kernel) (Nat.le_of_ble_eq_true rfl) rfl ?_
  intro G C hl hR hL hD hcy hA had hsa hr hQ
  subst hD hcy hA hsa hl
  refine g_iload_n C dJ3_checkIndex_8e157_0 0 rfl ?_
  refine g_if_lt C dJ3_checkIndex_8e157_1 (tgt := 9) (by decide) (fun c_1 => absurd c_1 (nI_pos (by omega))) (fun c_1 => ?_)
  refine g_iload_n C dJ3_checkIndex_8e157_4 0 rfl ?_
  refine g_iload_n C dJ3_checkIndex_8e157_5 1 rfl ?_
  refine g_icmp_lt C dJ3_checkIndex_8e157_6 (tgt := 16) (by decide) (fun c_6 => ?_) (fun c_6 => absurd (nI_lt hi hz) c_6)
  refine g_iload_n C dJ3_checkIndex_8e157_16 0 rfl ?_
  refine g_iretP C hr hQ (by decide) (by decide) dJ3_checkIndex_8e157_17 ?_
  exact (by first | with_reducible rfl | (first | with_reducible rfl | (simp only [sa_ap, si_ap, si_sa, sa_sa, sa_3, sa_4, sa_5, sa_6, sa_7, sa_8]; done) | (simp [sa_ap, si_ap, si_sa, sa_sa, sa_3, sa_4, sa_5, sa_6, sa_7, sa_8]; done)))

set_option maxHeartbeats 400000 in
/-- String.checkIndex -/
theorem c_J0_checkIndex_df160 (l : Launch) (D : va_G) (cy : Nat → ClassId) (A : Nat → Prop) (sad : Nat → Nat) (Wp : Heap → Prop) (i z : Nat) (hi : i < z) (hz : z < 2 ^ 31) : Met l yJ0_checkIndex_df160 (wsA yJ0_checkIndex_df160 cJ0_checkIndex_df160 2 none) ({ frames := 1, cells := 0, slots := 0, locals := 22 }) (PcH D cy A sad Wp [.int (nI i), .int (nI z)]) (QvP A Wp) 0 0 A := by
  refine met_ofP (fun _ => 0) [(0, .int (nI i)), (1, .int (nI z))] (by decide +kernel) (Nat.le_of_ble_eq_true rfl) rfl ?_
  intro G C hl hR hL hD hcy hA had hsa hr hQ
  subst hD hcy hA hsa hl
  refine g_iload_n C dJ0_checkIndex_df160_0 0 rfl ?_
  refine g_iload_n C dJ0_checkIndex_df160_1 1 rfl ?_
  refine g_sioobe C tw826 dJ0_checkIndex_df160_2 ?_ (fun v => ?_)
  · refine g_callSiP C (c_J3_checkIndex_n _ _ _ _ _ _ _ _ hi hz) tw883 tw884 tw30 tw885 rfl ⟨by decide +kernel, by decide +kernel, rfl⟩ ⟨rfl, rfl⟩ (by rw [hR]; decide) (Nat.le_of_ble_eq_true rfl) dJ0_checkIndex_df160_5 (by rw [hR]; decide) (fun r_1 h_2 => ?_)
    refine g_pop C dJ0_checkIndex_df160_8 rfl ?_
    refine g_vretP C hr hQ (by decide) (by decide) dJ0_checkIndex_df160_9
  · refine g_callSiP C (c_J3_checkIndex_8e157 _ _ _ _ _ _ _ _ _ hi hz) tw883 tw884 tw30 tw885 rfl ⟨by decide +kernel, by decide +kernel, rfl⟩ ⟨rfl, rfl⟩ (by rw [hR]; decide) (Nat.le_of_ble_eq_true rfl) dJ0_checkIndex_df160_5 (by rw [hR]; decide) (fun r_3 h_4 => ?_)
    refine g_pop C dJ0_checkIndex_df160_8 rfl ?_
    refine g_vretP C hr hQ (by decide) (by decide) dJ0_checkIndex_df160_9

set_option maxHeartbeats 400000 in
/-- AbstractStringBuilder.isLatin1 -/
theorem c_J5_isLatin1_aae02 (l : Launch) (D : va_G) (cy : Nat → ClassId) (A : Nat → Prop) (sad : Nat → Nat) (ws : va_W) (p0 p1 a b n cap : Nat) (f : Nat → Int32) (hp : okP ws p0 p1) (hcap : cap < 2 ^ 28) (hn : n ≤ cap) : Met l yJ5_isLatin1_aae02 (wsA yJ5_isLatin1_aae02 cJ5_isLatin1_aae02 1 (some .boolean)) ({ frames := 0, cells := 0, slots := 0, locals := 0 }) (PcH D cy A sad (WTd D cy A ws p0 p1 a b n cap f) [.ref a]) (QiP A (WTd D cy A ws p0 p1 a b n cap f) (fun r => r = 1)) 0 0 A := by
  refine met_ofP (fun _ => 0) [(0, .ref a)] (by decide +kernel) (Nat.le_of_ble_eq_true rfl) rfl ?_
  intro G C hl hR hL hD hcy hA had hsa hr hQ
  subst hD hcy hA hsa hl
  refine g_compact C tw288 dJ5_isLatin1_aae02_0 ?_
  refine g_if_eq C dJ5_isLatin1_aae02_3 (tgt := 17) (by decide) (fun c_3 => absurd c_3 (by decide)) (fun c_3 => ?_)
  refine g_aload_n C dJ5_isLatin1_aae02_6 0 rfl ?_
  refine gT_coder C hp tw298 dJ5_isLatin1_aae02_7 ?_
  refine g_if_ne C dJ5_isLatin1_aae02_10 (tgt := 17) (by decide) (fun c_10 => absurd c_10 (by decide)) (fun c_10 => ?_)
  refine g_iconst C dJ5_isLatin1_aae02_13 (v := 1) (by decide) ?_
  refine g_goto C dJ5_isLatin1_aae02_14 (tgt := 18) (by decide) ?_
  refine g_zretP C hr (by decide) hQ (by decide) (by decide) dJ5_isLatin1_aae02_18 ?_
  exact (by first | with_reducible rfl | (first | with_reducible rfl | (simp only [sa_ap, si_ap, si_sa, sa_sa, sa_3, sa_4, sa_5, sa_6, sa_7, sa_8]; done) | (simp [sa_ap, si_ap, si_sa, sa_sa, sa_3, sa_4, sa_5, sa_6, sa_7, sa_8]; done)))

set_option maxHeartbeats 400000 in
/-- AbstractStringBuilder.length -/
theorem c_J5_length_8abf5 (l : Launch) (D : va_G) (cy : Nat → ClassId) (A : Nat → Prop) (sad : Nat → Nat) (ws : va_W) (p0 p1 a b n cap : Nat) (f : Nat → Int32) (hp : okP ws p0 p1) (hcap : cap < 2 ^ 28) (hn : n ≤ cap) : Met l yJ5_length_8abf5 (wsA yJ5_length_8abf5 cJ5_length_8abf5 1 (some .int)) ({ frames := 0, cells := 0, slots := 0, locals := 0 }) (PcH D cy A sad (WTd D cy A ws p0 p1 a b n cap f) [.ref a]) (QiP A (WTd D cy A ws p0 p1 a b n cap f) (fun r => r = nI n)) 0 0 A := by
  refine met_ofP (fun _ => 0) [(0, .ref a)] (by decide +kernel) (Nat.le_of_ble_eq_true rfl) rfl ?_
  intro G C hl hR hL hD hcy hA had hsa hr hQ
  subst hD hcy hA hsa hl
  refine g_aload_n C dJ5_length_8abf5_0 0 rfl ?_
  refine gT_count C hp tw300 dJ5_length_8abf5_1 ?_
  refine g_iretP C hr hQ (by decide) (by decide) dJ5_length_8abf5_4 ?_
  exact (by first | with_reducible rfl | (first | with_reducible rfl | (simp only [sa_ap, si_ap, si_sa, sa_sa, sa_3, sa_4, sa_5, sa_6, sa_7, sa_8]; done) | (simp [sa_ap, si_ap, si_sa, sa_sa, sa_3, sa_4, sa_5, sa_6, sa_7, sa_8]; done)))

set_option maxHeartbeats 400000 in
/-- StringBuilder.length -/
theorem c_J4_length_8abf5 (l : Launch) (D : va_G) (cy : Nat → ClassId) (A : Nat → Prop) (sad : Nat → Nat) (ws : va_W) (p0 p1 a b n cap : Nat) (f : Nat → Int32) (hp : okP ws p0 p1) (hcap : cap < 2 ^ 28) (hn : n ≤ cap) : Met l yJ4_length_8abf5 (wsA yJ4_length_8abf5 cJ4_length_8abf5 1 (some .int)) ({ frames := 1, cells := 0, slots := 0, locals := 20 }) (PcH D cy A sad (WTd D cy A ws p0 p1 a b n cap f) [.ref a]) (QiP A (WTd D cy A ws p0 p1 a b n cap f) (fun r => r = nI n)) 0 0 A := by
  refine met_ofP (fun _ => 0) [(0, .ref a)] (by decide +kernel) (Nat.le_of_ble_eq_true rfl) rfl ?_
  intro G C hl hR hL hD hcy hA had hsa hr hQ
  subst hD hcy hA hsa hl
  refine g_aload_n C dJ4_length_8abf5_0 0 rfl ?_
  refine g_callSUiP C (c_J5_length_8abf5 _ _ _ _ _ _ _ _ _ _ _ _ _ hp hcap hn) (g_cwSU C (mc := 0) (ms := 0) tw1096 tw1373 tw309 tw1097 tw12 tw1098 ⟨by decide +kernel, rfl⟩ ⟨rfl, rfl⟩ (by rw [hR]; decide)) (rvT C hp) rfl (Nat.le_of_ble_eq_true rfl) dJ4_length_8abf5_1 (by rw [hR]; decide) (fun r_1 h_2 => ?_)
  refine g_iretP C hr hQ (by decide) (by decide) dJ4_length_8abf5_4 ?_
  exact h_2

set_option maxHeartbeats 400000 in
/-- AbstractStringBuilder.charAt -/
theorem c_J5_charAt_5068e (l : Launch) (D : va_G) (cy : Nat → ClassId) (A : Nat → Prop) (sad : Nat → Nat) (ws : va_W) (p0 p1 a b n cap : Nat) (f : Nat → Int32) (hp : okP ws p0 p1) (hcap : cap < 2 ^ 28) (hn : n ≤ cap) (i : Nat) (hi : i < n) (t : Nat) (hl : f i = nI t) (ht : t < 128) : Met l yJ5_charAt_5068e (wsA yJ5_charAt_5068e cJ5_charAt_5068e 5 (some .char)) ({ frames := 2, cells := 0, slots := 0, locals := 43 }) (PcH D cy A sad (WTd D cy A ws p0 p1 a b n cap f) [.ref a, .int (nI i)]) (QiP A (WTd D cy A ws p0 p1 a b n cap f) (fun r => r = nI t)) 0 0 A := by
  refine met_ofP (fun _ => 0) [(0, .ref a), (1, .int (nI i))] (by decide +kernel) (Nat.le_of_ble_eq_true rfl) rfl ?_
  intro G C hl hR hL hD hcy hA had hsa hr hQ
  subst hD hcy hA hsa hl
  refine g_aload_n C dJ5_charAt_5068e_0 0 rfl ?_
  refine gT_coder C hp tw298 dJ5_charAt_5068e_1 ?_
  refine g_istore_n C dJ5_charAt_5068e_4 (L' := [(2, .int 0), (0, .ref a), (1, .int (nI i))]) rfl (by rw [hL]; decide) ?_
  refine g_aload_n C dJ5_charAt_5068e_5 1 rfl ?_
  refine gT_value C hp tw297 dJ5_charAt_5068e_6 ?_
  refine g_astore_n C dJ5_charAt_5068e_9 (L' := [(3, .ref b), (2, .int 0), (0, .ref a), (1, .int (nI i))]) rfl (by rw [hL]; decide) ?_
  refine g_aload_n C dJ5_charAt_5068e_10 2 rfl ?_
  refine gT_count C hp tw300 dJ5_charAt_5068e_11 ?_
  refine g_aload_n C dJ5_charAt_5068e_14 0 rfl ?_
  refine alT C hp dJ5_charAt_5068e_15 ?_
  refine g_iload_n C dJ5_charAt_5068e_16 1 rfl ?_
  refine g_ishr C dJ5_charAt_5068e_17 ?_
  refine g_min C dJ5_charAt_5068e_18 tw1107 (Nat.le_of_ble_eq_true rfl) (by rw [hR]; decide) ?_
  refine g_topi (y := tk_min _ _) rfl ?_
  refine g_topi (tk_minN hn (by omega)) ?_
  refine g_istore C dJ5_charAt_5068e_21 (L' := [(4, .int (nI n)), (3, .ref b), (2, .int 0), (0, .ref a), (1, .int (nI i))]) rfl (by rw [hL]; decide) ?_
  refine g_iload_n C dJ5_charAt_5068e_23 4 rfl ?_
  refine g_iload C dJ5_charAt_5068e_24 0 rfl ?_
  refine g_callSvP C (c_J0_checkIndex_df160 _ _ _ _ _ _ _ _ hi (by omega)) tw1108 tw881 tw14 tw882 rfl ⟨by decide +kernel, by decide +kernel, rfl⟩ ⟨rfl, rfl⟩ (by rw [hR]; decide) (Nat.le_of_ble_eq_true rfl) dJ5_charAt_5068e_26 (by rw [hR]; decide) (?_)
  refine g_iload_n C dJ5_charAt_5068e_29 2 rfl ?_
  refine g_if_ne C dJ5_charAt_5068e_30 (tgt := 42) (by decide) (fun c_30 => absurd c_30 (by decide)) (fun c_30 => ?_)
  refine g_aload_n C dJ5_charAt_5068e_33 1 rfl ?_
  refine g_iload_n C dJ5_charAt_5068e_34 4 rfl ?_
  refine aT_ld C hp (by omega) (by omega) dJ5_charAt_5068e_35 ?_
  refine g_sipush C dJ5_charAt_5068e_36 (v := 255) (by decide) ?_
  refine g_iand C dJ5_charAt_5068e_39 ?_
  refine g_i2c C dJ5_charAt_5068e_40 ?_
  refine g_topi (y := nI t) (ch_of hl ht) ?_
  refine g_zretP C hr (ch_nar ht) hQ (by decide) (by decide) dJ5_charAt_5068e_41 ?_
  rfl

set_option maxHeartbeats 400000 in
/-- StringBuilder.charAt -/
theorem c_J4_charAt_5068e (l : Launch) (D : va_G) (cy : Nat → ClassId) (A : Nat → Prop) (sad : Nat → Nat) (ws : va_W) (p0 p1 a b n cap : Nat) (f : Nat → Int32) (hp : okP ws p0 p1) (hcap : cap < 2 ^ 28) (hn : n ≤ cap) (i t : Nat) (hi : i < n) (hl : f i = nI t) (ht : t < 128) : Met l yJ4_charAt_5068e (wsA yJ4_charAt_5068e cJ4_charAt_5068e 2 (some .char)) ({ frames := 3, cells := 0, slots := 0, locals := 67 }) (PcH D cy A sad (WTd D cy A ws p0 p1 a b n cap f) [.ref a, .int (nI i)]) (QiP A (WTd D cy A ws p0 p1 a b n cap f) (fun r => r = nI t)) 0 0 A := by
  refine met_ofP (fun _ => 0) [(0, .ref a), (1, .int (nI i))] (by decide +kernel) (Nat.le_of_ble_eq_true rfl) rfl ?_
  intro G C hl hR hL hD hcy hA had hsa hr hQ
  subst hD hcy hA hsa hl
  refine g_aload_n C dJ4_charAt_5068e_0 0 rfl ?_
  refine g_iload_n C dJ4_charAt_5068e_1 1 rfl ?_
  refine g_callSUiP C (c_J5_charAt_5068e _ _ _ _ _ _ _ _ _ _ _ _ _ hp hcap hn i hi t hl ht) (g_cwSU C (mc := 0) (ms := 0) tw1104 tw1374 tw309 tw1105 tw12 tw1106 ⟨by decide +kernel, rfl⟩ ⟨rfl, rfl⟩ (by rw [hR]; decide)) (rvT C hp) rfl (Nat.le_of_ble_eq_true rfl) dJ4_charAt_5068e_2 (by rw [hR]; decide) (fun r_1 h_2 => ?_)
  refine g_zretP C hr (by subst h_2; exact ch_nar ht) hQ (by decide) (by decide) dJ4_charAt_5068e_5 ?_
  exact h_2

set_option maxHeartbeats 400000 in
/-- ArraysSupport.newLength -/
theorem c_J8_newLength_cabcc (l : Launch) (D : va_G) (cy : Nat → ClassId) (A : Nat → Prop) (sad : Nat → Nat) (Wp : Heap → Prop) (c g : Nat) (hc : c < 2 ^ 28) (hg : g ≤ c + 2) : Met l yJ8_newLength_cabcc (wsA yJ8_newLength_cabcc cJ8_newLength_cabcc 4 (some .int)) ({ frames := 1, cells := 0, slots := 0, locals := 21 }) (PcH D cy A sad Wp [.int (nI c), .int (nI g), .int (nI (c + 2))]) (QiP A Wp (fun r => r = nI (2 * c + 2))) 0 0 A := by
  refine met_ofP (fun _ => 0) [(0, .int (nI c)), (1, .int (nI g)), (2, .int (nI (c + 2)))] (by decide +kernel) (Nat.le_of_ble_eq_true rfl) rfl ?_
  intro G C hl hR hL hD hcy hA had hsa hr hQ
  subst hD hcy hA hsa hl
  refine g_iload_n C dJ8_newLength_cabcc_0 0 rfl ?_
  refine g_iload_n C dJ8_newLength_cabcc_1 1 rfl ?_
  refine g_iload_n C dJ8_newLength_cabcc_2 2 rfl ?_
  refine g_max C dJ8_newLength_cabcc_3 tw782 (Nat.le_of_ble_eq_true rfl) (by rw [hR]; decide) ?_
  refine g_topi (y := tk_max _ _) rfl ?_
  refine g_iadd C dJ8_newLength_cabcc_6 ?_
  refine g_topi (nl_max hc hg) ?_
  refine g_istore_n C dJ8_newLength_cabcc_7 (L' := [(3, .int (nI (2 * c + 2))), (0, .int (nI c)), (1, .int (nI g)), (2, .int (nI (c + 2)))]) rfl (by rw [hL]; decide) ?_
  refine g_iconst C dJ8_newLength_cabcc_8 (v := 0) (by decide) ?_
  refine g_iload_n C dJ8_newLength_cabcc_9 0 rfl ?_
  refine g_icmp_ge C dJ8_newLength_cabcc_10 (tgt := 21) (by decide) (fun c_10 => absurd c_10 (nI_nle (by omega) (by omega))) (fun c_10 => ?_)
  refine g_iload_n C dJ8_newLength_cabcc_13 0 rfl ?_
  refine g_ldc C dJ8_newLength_cabcc_14 tw783 ?_
  refine g_icmp_gt C dJ8_newLength_cabcc_16 (tgt := 21) (by decide) (fun c_16 => absurd c_16 (nI_nlt (a := 2147483639) (b := 2 * c + 2) (by omega) (by omega))) (fun c_16 => ?_)
  refine g_iload_n C dJ8_newLength_cabcc_19 0 rfl ?_
  refine g_iretP C hr hQ (by decide) (by decide) dJ8_newLength_cabcc_20 ?_
  rfl

set_option maxHeartbeats 400000 in
/-- AbstractStringBuilder.newCapacity -/
theorem c_J5_newCapacity_0f7a4 (l : Launch) (D : va_G) (cy : Nat → ClassId) (A : Nat → Prop) (sad : Nat → Nat) (ws : va_W) (p0 p1 a b n cap : Nat) (f : Nat → Int32) (hp : okP ws p0 p1) (hcap : cap < 2 ^ 28) (hn : n ≤ cap) (m : Nat) (h1 : cap < m) (h2 : m ≤ 2 * cap + 2) : Met l yJ5_newCapacity_0f7a4 (wsA yJ5_newCapacity_0f7a4 cJ5_newCapacity_0f7a4 6 (some .int)) ({ frames := 2, cells := 0, slots := 0, locals := 44 }) (PcH D cy A sad (WTd D cy A ws p0 p1 a b n cap f) [.ref a, .int (nI m)]) (QiP A (WTd D cy A ws p0 p1 a b n cap f) (fun r => r = nI (2 * cap + 2))) 0 0 A := by
  refine met_ofP (fun _ => 0) [(0, .ref a), (1, .int (nI m))] (by decide +kernel) (Nat.le_of_ble_eq_true rfl) rfl ?_
  intro G C hl hR hL hD hcy hA had hsa hr hQ
  subst hD hcy hA hsa hl
  refine g_aload_n C dJ5_newCapacity_0f7a4_0 0 rfl ?_
  refine gT_value C hp tw297 dJ5_newCapacity_0f7a4_1 ?_
  refine alT C hp dJ5_newCapacity_0f7a4_4 ?_
  refine g_istore_n C dJ5_newCapacity_0f7a4_5 (L' := [(2, .int (nI cap)), (0, .ref a), (1, .int (nI m))]) rfl (by rw [hL]; decide) ?_
  refine g_iload_n C dJ5_newCapacity_0f7a4_6 2 rfl ?_
  refine g_aload_n C dJ5_newCapacity_0f7a4_7 1 rfl ?_
  refine gT_coder C hp tw298 dJ5_newCapacity_0f7a4_8 ?_
  refine g_ishl C dJ5_newCapacity_0f7a4_11 ?_
  refine g_topi (sb_shl0 (nI m)) ?_
  refine g_istore_n C dJ5_newCapacity_0f7a4_12 (L' := [(3, .int (nI m)), (2, .int (nI cap)), (0, .ref a), (1, .int (nI m))]) rfl (by rw [hL]; decide) ?_
  refine g_iload_n C dJ5_newCapacity_0f7a4_13 0 rfl ?_
  refine g_iload_n C dJ5_newCapacity_0f7a4_14 1 rfl ?_
  refine g_isub C dJ5_newCapacity_0f7a4_15 ?_
  refine g_topi (pk_sub (by omega)) ?_
  refine g_istore C dJ5_newCapacity_0f7a4_16 (L' := [(4, .int (nI (m - cap))), (3, .int (nI m)), (2, .int (nI cap)), (0, .ref a), (1, .int (nI m))]) rfl (by rw [hL]; decide) ?_
  refine g_iload_n C dJ5_newCapacity_0f7a4_18 2 rfl ?_
  refine g_iload C dJ5_newCapacity_0f7a4_19 0 rfl ?_
  refine g_iload_n C dJ5_newCapacity_0f7a4_21 2 rfl ?_
  refine g_iconst C dJ5_newCapacity_0f7a4_22 (v := 2) (by decide) ?_
  refine g_aload_n C dJ5_newCapacity_0f7a4_23 3 rfl ?_
  refine gT_coder C hp tw298 dJ5_newCapacity_0f7a4_24 ?_
  refine g_ishl C dJ5_newCapacity_0f7a4_27 ?_
  refine g_iadd C dJ5_newCapacity_0f7a4_28 ?_
  refine g_topi (y := nI (cap + 2)) (by rw [sb_shl0]; exact nI_add cap 2) ?_
  refine g_callSiP C (c_J8_newLength_cabcc _ _ _ _ _ _ cap (m - cap) (by omega) (by omega)) tw779 tw780 tw27 tw781 rfl ⟨by decide +kernel, by decide +kernel, rfl⟩ ⟨rfl, rfl⟩ (by rw [hR]; decide) (Nat.le_of_ble_eq_true rfl) dJ5_newCapacity_0f7a4_29 (by rw [hR]; decide) (fun r_1 h_2 => ?_)
  refine g_topi (y := nI (2 * cap + 2)) h_2 ?_
  refine g_istore C dJ5_newCapacity_0f7a4_32 (L' := [(5, .int (nI (2 * cap + 2))), (4, .int (nI (m - cap))), (3, .int (nI m)), (2, .int (nI cap)), (0, .ref a), (1, .int (nI m))]) rfl (by rw [hL]; decide) ?_
  refine g_iload C dJ5_newCapacity_0f7a4_34 0 rfl ?_
  refine g_ldc C dJ5_newCapacity_0f7a4_36 tw787 ?_
  refine g_icmp_ne C dJ5_newCapacity_0f7a4_38 (tgt := 51) (by decide) (fun c_38 => ?_) (fun c_38 => absurd c_38 (fun z9 => by have := (nI_eq (a := 2 * cap + 2) (b := 2147483647) (by omega) (by decide)).mp z9; omega))
  refine g_iload C dJ5_newCapacity_0f7a4_51 0 rfl ?_
  refine g_aload_n C dJ5_newCapacity_0f7a4_53 4 rfl ?_
  refine gT_coder C hp tw298 dJ5_newCapacity_0f7a4_54 ?_
  refine g_ishr C dJ5_newCapacity_0f7a4_57 ?_
  refine g_iretP C hr hQ (by decide) (by decide) dJ5_newCapacity_0f7a4_58 ?_
  exact sb_shr0 _

/-- Arrays.copyOf, to a longer row -/
theorem c_J7_copyOf (l : Launch) (D : va_G) (cy : Nat → ClassId) (A : Nat → Prop) (sad : Nat → Nat) (ws : va_W) (p0 p1 a b n cap : Nat) (f : Nat → Int32) (hp : okP ws p0 p1) (hcap : cap < 2 ^ 28) (m : Nat) (hm : cap < m) (hm2 : m < 2 ^ 28) (hf : sb_Fit f) : Met l yJ7_copyOf_9075b (wsA yJ7_copyOf_9075b cJ7_copyOf_9075b 3 (some (.array .byte))) ({ frames := 1, cells := 1, slots := m, locals := 21 }) (PcH D cy A sad (WTd D cy A ws p0 p1 a b n cap f) [.ref b, .int (nI m)]) (va_Qr (fun (_ : Unit) => True) (fun _ q t => (fun H => va_P D clT (wT (cy 3) ws p0 p1 a b n cap f ++ [tRow (cy 3) q m (va_cpy f (fun _ => 0) 0 0 cap)]) H ∧ va_D A (wT (cy 3) ws p0 p1 a b n cap f ++ [tRow (cy 3) q m (va_cpy f (fun _ => 0) 0 0 cap)])) t.heap) A) 1 m A := by
  refine met_ofP (fun _ => 0) [(0, .ref b), (1, .int (nI m))] (by decide +kernel) (Nat.le_of_ble_eq_true rfl) rfl ?_
  intro G C hl hR hL hD hcy hA had hsa hr hQ
  subst hD hcy hA hsa hl
  refine g_iload_n C dJ7_copyOf_9075b_0 1 rfl ?_
  refine g_aload_n C dJ7_copyOf_9075b_1 0 rfl ?_
  refine gB_alen C (wT_1 hp) dJ7_copyOf_9075b_2 ?_
  refine g_icmp_ne C dJ7_copyOf_9075b_3 (tgt := 14) (by decide) (fun c_3 => ?_) (fun c_3 => absurd ((nI_eq (by omega) (by omega)).mp c_3) (by omega))
  refine g_iload_n C dJ7_copyOf_9075b_14 1 rfl ?_
  refine gB_newb C tw310 hm2 (by rw [hR]; exact ⟨Nat.le_refl _, by show 0 + m ≤ m; omega⟩) dJ7_copyOf_9075b_15 (fun q => ?_)
  refine g_astore_n C (L' := [(2, .ref q), (0, .ref b), (1, .int (nI m))]) dJ7_copyOf_9075b_17 rfl (by rw [hL]; decide) ?_
  refine g_aload_n C dJ7_copyOf_9075b_18 1 rfl ?_
  refine g_iconst C dJ7_copyOf_9075b_19 (v := 0) (by decide) ?_
  refine g_aload_n C dJ7_copyOf_9075b_20 0 rfl ?_
  refine g_iconst C dJ7_copyOf_9075b_21 (v := 0) (by decide) ?_
  refine g_aload_n C dJ7_copyOf_9075b_22 1 rfl ?_
  have hl0 : (wT (gcy G 3) ws p0 p1 a b n cap f).length = ws.length := by unfold wT; rw [List.length_set, List.length_set]
  have h0 : (wT (gcy G 3) ws p0 p1 a b n cap f ++ [tRow (gcy G 3) q m (fun _ => 0)])[p1]? = some (tRow (gcy G 3) b cap f) := by rw [List.getElem?_append_left (by rw [hl0]; exact hp.2.1)]; exact wT_1 hp
  have h1 : (wT (gcy G 3) ws p0 p1 a b n cap f ++ [tRow (gcy G 3) q m (fun _ => 0)])[ws.length]? = some (tRow (gcy G 3) q m (fun _ => 0)) := by rw [List.getElem?_append_right (by omega), hl0, Nat.sub_self]; rfl
  refine gB_alen C h0 dJ7_copyOf_9075b_23 ?_
  refine g_iload_n C dJ7_copyOf_9075b_24 2 rfl ?_
  refine g_min C dJ7_copyOf_9075b_25 tw798 (Nat.le_of_ble_eq_true rfl) (by rw [hR]; exact ⟨Nat.le_refl _, Nat.le_refl _, by show 0 + 1 ≤ 1; omega, by show 0 + m ≤ m; omega⟩) ?_
  refine g_topi (y := nI cap) (if_neg (nI_nlt (by omega) (by omega))) ?_
  refine gB_copy C h0 h1 (by omega) (by omega) hf tw799 tw801 tw800 tw29 (by rw [hR]; exact ⟨Nat.le_refl _, by show (0 : Nat) + 18 ≤ 21; omega⟩) dJ7_copyOf_9075b_28 ?_
  have e : (wT (gcy G 3) ws p0 p1 a b n cap f ++ [tRow (gcy G 3) q m (fun _ => 0)]).set ws.length (tRow (gcy G 3) q m (va_cpy f (fun _ => 0) 0 0 cap)) = wT (gcy G 3) ws p0 p1 a b n cap f ++ [tRow (gcy G 3) q m (va_cpy f (fun _ => 0) 0 0 cap)] := by rw [List.set_append_right _ _ (by omega), hl0, Nat.sub_self]; rfl
  rw [e]
  refine g_aload_n C dJ7_copyOf_9075b_31 0 rfl ?_
  exact g_aretR (S := Unit) (post := fun _ => True) (WR := fun _ q => WB G (wT (gcy G 3) ws p0 p1 a b n cap f ++ [tRow (gcy G 3) q m (va_cpy f (fun _ => 0) 0 0 cap)])) () C hr (Or.inr ⟨_, rfl⟩) hQ (by omega) (by omega) dJ7_copyOf_9075b_32 trivial (fun H h => h)

set_option maxHeartbeats 400000 in
/-- AbstractStringBuilder.ensureCapacityInternal -/
theorem c_ens_no (l : Launch) (D : va_G) (cy : Nat → ClassId) (A : Nat → Prop) (sad : Nat → Nat) (ws : va_W) (p0 p1 a b n cap : Nat) (f : Nat → Int32) (hp : okP ws p0 p1) (hcap : cap < 2 ^ 28) (hn : n ≤ cap) (m : Nat) (hm : m ≤ cap) : Met l yJ5_ensureCapacityInternal_d00df (wsA yJ5_ensureCapacityInternal_d00df cJ5_ensureCapacityInternal_d00df 3 none) ({ frames := 3, cells := 0, slots := 0, locals := 100 }) (PcH D cy A sad (WTd D cy A ws p0 p1 a b n cap f) [.ref a, .int (nI m)]) (QvP A (WTd D cy A ws p0 p1 a b n cap f)) 0 0 A := by
  refine met_ofP (fun _ => 0) [(0, .ref a), (1, .int (nI m))] (by decide +kernel) (Nat.le_of_ble_eq_true rfl) rfl ?_
  intro G C hl hR hL hD hcy hA had hsa hr hQ
  subst hD hcy hA hsa hl
  refine g_aload_n C dJ5_ensureCapacityInternal_d00df_0 0 rfl ?_
  refine gT_value C hp tw297 dJ5_ensureCapacityInternal_d00df_1 ?_
  refine alT C hp dJ5_ensureCapacityInternal_d00df_4 ?_
  refine g_aload_n C dJ5_ensureCapacityInternal_d00df_5 0 rfl ?_
  refine gT_coder C hp tw298 dJ5_ensureCapacityInternal_d00df_6 ?_
  refine g_ishr C dJ5_ensureCapacityInternal_d00df_9 ?_
  refine g_topi (sb_shr0 (nI cap)) ?_
  refine g_istore_n C dJ5_ensureCapacityInternal_d00df_10 (L' := [(2, .int (nI cap)), (0, .ref a), (1, .int (nI m))]) rfl (by rw [hL]; decide) ?_
  refine g_iload_n C dJ5_ensureCapacityInternal_d00df_11 2 rfl ?_
  refine g_iload_n C dJ5_ensureCapacityInternal_d00df_12 0 rfl ?_
  refine g_isub C dJ5_ensureCapacityInternal_d00df_13 ?_
  refine g_if_le C dJ5_ensureCapacityInternal_d00df_14 (tgt := 38) (by decide) (fun c_14 => ?_) (fun c_14 => absurd (ens_le hm (by omega)) c_14)
  refine g_vretP C hr hQ (by decide) (by decide) dJ5_ensureCapacityInternal_d00df_38

/-- ensureCapacityInternal, growing -/
theorem c_ens_gr (l : Launch) (D : va_G) (cy : Nat → ClassId) (A : Nat → Prop) (sad : Nat → Nat) (ws : va_W) (p0 p1 a b n cap : Nat) (f : Nat → Int32) (hp : okP ws p0 p1) (hcap : cap < 2 ^ 26) (m : Nat) (hm : cap < m) (hm2 : m ≤ 2 * cap + 2) (hn : n ≤ cap) (hf : sb_Fit f) : Met l yJ5_ensureCapacityInternal_d00df (wsA yJ5_ensureCapacityInternal_d00df cJ5_ensureCapacityInternal_d00df 3 none) ({ frames := 3, cells := 1, slots := 2 * cap + 2, locals := 100 }) (PcH D cy A sad (WTd D cy A ws p0 p1 a b n cap f) [.ref a, .int (nI m)]) (va_Qv (fun (_ : Nat) => True) (fun q t => (WTd D cy A ws p0 p1 a q n (2 * cap + 2) (va_cpy f (fun _ => 0) 0 0 cap)) t.heap) A) 1 (2 * cap + 2) A := by
  refine met_ofP (fun _ => 0) [(0, .ref a), (1, .int (nI m))] (by decide +kernel) (Nat.le_of_ble_eq_true rfl) rfl ?_
  intro G C hl hR hL hD hcy hA had hsa hr hQ
  subst hD hcy hA hsa hl
  refine g_aload_n C dJ5_ensureCapacityInternal_d00df_0 0 rfl ?_
  refine gT_value C hp tw297 dJ5_ensureCapacityInternal_d00df_1 ?_
  refine alT C hp dJ5_ensureCapacityInternal_d00df_4 ?_
  refine g_aload_n C dJ5_ensureCapacityInternal_d00df_5 0 rfl ?_
  refine gT_coder C hp tw298 dJ5_ensureCapacityInternal_d00df_6 ?_
  refine g_ishr C dJ5_ensureCapacityInternal_d00df_9 ?_
  refine g_topi (y := nI cap) (sb_shr0 (nI cap)) ?_
  refine g_istore_n C dJ5_ensureCapacityInternal_d00df_10 (L' := [(2, .int (nI cap)), (0, .ref a), (1, .int (nI m))]) rfl (by rw [hL]; decide) ?_
  refine g_iload_n C dJ5_ensureCapacityInternal_d00df_11 2 rfl ?_
  refine g_iload_n C dJ5_ensureCapacityInternal_d00df_12 0 rfl ?_
  refine g_isub C dJ5_ensureCapacityInternal_d00df_13 ?_
  refine g_if_le C dJ5_ensureCapacityInternal_d00df_14 (tgt := 38) (by decide) (fun c_14 => absurd c_14 (ens_nle hm (by omega))) (fun c_14 => ?_)
  refine g_aload_n C dJ5_ensureCapacityInternal_d00df_17 1 rfl ?_
  refine g_aload_n C dJ5_ensureCapacityInternal_d00df_18 1 rfl ?_
  refine gT_value C hp tw297 dJ5_ensureCapacityInternal_d00df_19 ?_
  refine g_aload_n C dJ5_ensureCapacityInternal_d00df_22 1 rfl ?_
  refine g_iload_n C dJ5_ensureCapacityInternal_d00df_23 2 rfl ?_
  refine g_callUiP C (c_J5_newCapacity_0f7a4 _ _ _ _ _ _ _ _ _ _ _ _ _ hp (by omega) hn m hm hm2) (g_cwU C (mc := 0) (ms := 0) tw775 tw1370 tw777 (selT C (by decide)) tw12 tw778 ⟨by decide +kernel, by decide +kernel, rfl⟩ ⟨rfl, rfl⟩ (by rw [hR]; exact ⟨by show _ + 1 ≤ 3; decide, by show _ ≤ 100; decide⟩)) (rvT C hp) rfl (Nat.le_of_ble_eq_true rfl) dJ5_ensureCapacityInternal_d00df_24 (by rw [hR]; exact ⟨by show 0 + 0 ≤ 1; omega, by show 0 + 0 ≤ 2 * cap + 2; omega⟩) (fun r h_1 => ?_)
  refine g_topi (y := nI (2 * cap + 2)) h_1 ?_
  refine g_aload_n C dJ5_ensureCapacityInternal_d00df_27 1 rfl ?_
  refine gT_coder C hp tw298 dJ5_ensureCapacityInternal_d00df_28 ?_
  refine g_ishl C dJ5_ensureCapacityInternal_d00df_31 ?_
  refine g_topi (y := nI (2 * cap + 2)) (sb_shl0 _) ?_
  refine g_callSrR (S := Unit) (post := fun _ => True) (WR := fun _ q => WB G (wT (gcy G 3) ws p0 p1 a b n cap f ++ [tRow (gcy G 3) q (2 * cap + 2) (va_cpy f (fun _ => 0) 0 0 cap)])) C (c_J7_copyOf _ _ _ _ _ _ _ _ _ _ n _ _ hp (by omega) (2 * cap + 2) (by omega) (by omega) hf) tw788 tw789 tw28 tw790 ⟨by decide +kernel, by decide +kernel, rfl⟩ ⟨rfl, rfl⟩ (by rw [hR]; exact ⟨by show 1 + 1 ≤ 3; decide, by show 8 + (3 + 11) + 21 ≤ 100; decide⟩) rfl (Nat.le_of_ble_eq_true rfl) dJ5_ensureCapacityInternal_d00df_32 (by rw [hR]; exact ⟨by show 0 + 0 + 1 ≤ 1; omega, by show 0 + 0 + (2 * cap + 2) ≤ 2 * cap + 2; omega⟩) (fun _ q _ => ?_)
  refine pT_grow C hp tw297 dJ5_ensureCapacityInternal_d00df_35 ?_
  exact g_vret (S := Nat) (WQ := fun q => WTx G ws p0 p1 a q n (2 * cap + 2) (va_cpy f (fun _ => 0) 0 0 cap)) (post := fun _ => True) q C hr hQ (by omega) (by omega) dJ5_ensureCapacityInternal_d00df_38 trivial (fun _ h => h)

/-- what a text's growth costs -/
def ncap (m cap : Nat) : Nat := if m ≤ cap then cap else 2 * cap + 2
def gcl (m cap : Nat) : Nat := if m ≤ cap then 0 else 1
def gsl (m cap : Nat) : Nat := if m ≤ cap then 0 else 2 * cap + 2
theorem ncap_le {m cap : Nat} (h : m ≤ 2 * cap + 2) : m ≤ ncap m cap := by
  unfold ncap
  split <;> omega
theorem Met.qmono {l : Launch} {y : MethodName} {ws : List Cond} {rm : Room} {Pc : Array Value → State → Prop} {Q Q' : Array Value → State → Outcome → State → Prop} {mc ms : Nat} {A : Nat → Prop} (h : Met l y ws rm Pc Q mc ms A) (hq : ∀ a s o t, Q a s o t → Q' a s o t) : Met l y ws rm Pc Q' mc ms A := MetFree.mono h (fun _ _ h => h) (fun _ _ _ _ _ h => h) (fun a s o t _ q => ⟨hq a s o t q.1, q.2⟩)
theorem c_ens (l : Launch) (D : va_G) (cy : Nat → ClassId) (A : Nat → Prop) (sad : Nat → Nat) (ws : va_W) (p0 p1 a b n cap : Nat) (f : Nat → Int32) (hp : okP ws p0 p1) (hcap : cap < 2 ^ 26) (hn : n ≤ cap) (m : Nat) (hm2 : m ≤ 2 * cap + 2) (hf : sb_Fit f) : Met l yJ5_ensureCapacityInternal_d00df (wsA yJ5_ensureCapacityInternal_d00df cJ5_ensureCapacityInternal_d00df 3 none) ({ frames := 3, cells := gcl m cap, slots := gsl m cap, locals := 100 }) (PcH D cy A sad (WTd D cy A ws p0 p1 a b n cap f) [.ref a, .int (nI m)]) (va_Qv (fun (u : Nat × (Nat → Int32)) => sb_Fit u.2 ∧ ∀ j, j < cap → u.2 j = f j) (fun u t => (WTd D cy A ws p0 p1 a u.1 n (ncap m cap) u.2) t.heap) A) (gcl m cap) (gsl m cap) A := by
  by_cases h : m ≤ cap
  · have e1 : gcl m cap = 0 := if_pos h
    have e2 : gsl m cap = 0 := if_pos h
    have e3 : ncap m cap = cap := if_pos h
    rw [e1, e2, e3]
    refine Met.qmono (c_ens_no l D cy A sad ws p0 p1 a b n cap f hp (by omega) hn m h) (fun _ s o t q => ?_)
    obtain ⟨⟨u, h1, -, h2⟩, h3⟩ := q
    exact ⟨⟨(b, f), h1, ⟨hf, fun _ _ => rfl⟩, h2⟩, h3⟩
  · have e1 : gcl m cap = 1 := if_neg h
    have e2 : gsl m cap = 2 * cap + 2 := if_neg h
    have e3 : ncap m cap = 2 * cap + 2 := if_neg h
    rw [e1, e2, e3]
    refine Met.qmono (c_ens_gr l D cy A sad ws p0 p1 a b n cap f hp hcap m (by omega) hm2 hn hf) (fun _ s o t q => ?_)
    obtain ⟨⟨u, h1, -, h2⟩, h3⟩ := q
    exact ⟨⟨(u, va_cpy f (fun _ => 0) 0 0 cap), h1, ⟨sb_fitC hf sb_fit0, fun j hj => by show va_cpy f (fun _ => 0) 0 0 cap j = f j; exact sb_cpy0 hj⟩, h2⟩, h3⟩
theorem by_of {c : Nat} (hc : c < 128) : vp_nar .byte ((nI c).toInt8.toInt32) = nI c ∧ fits .byte (.int (nI c)) = true := (by decide +kernel : ∀ c : Fin 128, vp_nar .byte ((nI c.val).toInt8.toInt32) = nI c.val ∧ fits .byte (.int (nI c.val)) = true) ⟨c, hc⟩

/-- AbstractStringBuilder.append(char) -/
theorem c_apc5 (l : Launch) (D : va_G) (cy : Nat → ClassId) (A : Nat → Prop) (sad : Nat → Nat) (ws : va_W) (p0 p1 a b n cap : Nat) (f : Nat → Int32) (hp : okP ws p0 p1) (hcap : cap < 2 ^ 26) (hn : n ≤ cap) (hf : sb_Fit f) (c : Nat) (hc : c < 128) : Met l yJ5_append_3fe6f (wsA yJ5_append_3fe6f cJ5_append_3fe6f 2 (some (.object "java/lang/AbstractStringBuilder"))) ({ frames := 4, cells := gcl (n + 1) cap, slots := gsl (n + 1) cap, locals := 130 }) (PcH D cy A sad (WTd D cy A ws p0 p1 a b n cap f) [.ref a, .int (nI c)]) (va_Qr (fun (u : Nat × (Nat → Int32)) => sb_Fit u.2 ∧ u.2 n = nI c ∧ ∀ j, j < n → u.2 j = f j) (fun u q t => (fun H => q = a ∧ WTd D cy A ws p0 p1 a u.1 (n + 1) (ncap (n + 1) cap) u.2 H) t.heap) A) (gcl (n + 1) cap) (gsl (n + 1) cap) A := by
  refine met_ofP (fun _ => 0) [(0, .ref a), (1, .int (nI c))] (by decide +kernel) (Nat.le_of_ble_eq_true rfl) rfl ?_
  intro G C hl hR hL hD hcy hA had hsa hr hQ
  subst hD hcy hA hsa hl
  have hc1 : n + 1 ≤ ncap (n + 1) cap := ncap_le (by omega)
  have hc2 : ncap (n + 1) cap < 2 ^ 28 := by unfold ncap; split <;> omega
  refine g_aload_n C dJ5_append_3fe6f_0 0 rfl ?_
  refine g_aload_n C dJ5_append_3fe6f_1 0 rfl ?_
  refine gT_count C hp tw300 dJ5_append_3fe6f_2 ?_
  refine g_iconst C dJ5_append_3fe6f_5 (v := 1) (by decide) ?_
  refine g_iadd C dJ5_append_3fe6f_6 ?_
  refine g_topi (y := nI (n + 1)) (nI_1 n) ?_
  refine g_callUv (S := Nat × (Nat → Int32)) (WQ := fun u => WTx G ws p0 p1 a u.1 n (ncap (n + 1) cap) u.2) (post := fun u => sb_Fit u.2 ∧ ∀ j, j < cap → u.2 j = f j) C (c_ens _ _ _ _ _ _ _ _ _ _ _ _ _ hp hcap hn (n + 1) (by omega) hf) (g_cwU C (mc := gcl (n + 1) cap) (ms := gsl (n + 1) cap) tw771 tw1369 tw773 (selT C (by decide)) tw12 tw774 ⟨by decide +kernel, by decide +kernel, rfl⟩ ⟨rfl, rfl⟩ (by rw [hR]; exact ⟨by show 3 + 1 ≤ 4; decide, by show 8 + (3 + 11) + 100 ≤ 130; decide⟩)) (rvT C hp) rfl (Nat.le_of_ble_eq_true rfl) dJ5_append_3fe6f_7 (by rw [hR]; exact ⟨by show 0 + _ ≤ gcl (n + 1) cap; omega, by show 0 + _ ≤ gsl (n + 1) cap; omega⟩) (fun u hu => ?_)
  refine g_aload_n C dJ5_append_3fe6f_10 0 rfl ?_
  refine g_callUiP C (c_J5_isLatin1_aae02 _ _ _ _ _ _ _ _ _ _ _ _ _ hp hc2 (by omega)) (g_cwU C (mc := 0) (ms := 0) tw802 tw804 tw803 (C.ts _ tw805) tw12 tw806 ⟨by decide +kernel, by decide +kernel, rfl⟩ ⟨rfl, rfl⟩ (by rw [hR]; exact ⟨by show 0 + 1 ≤ 4; decide, by show _ ≤ 130; decide⟩)) (rvT C hp) rfl (Nat.le_of_ble_eq_true rfl) dJ5_append_3fe6f_11 (by rw [hR]; exact ⟨by show 0 + _ + 0 ≤ gcl (n + 1) cap; omega, by show 0 + _ + 0 ≤ gsl (n + 1) cap; omega⟩) (fun r h_1 => ?_)
  refine g_topi (y := 1) h_1 ?_
  refine g_if_eq C dJ5_append_3fe6f_14 (tgt := 45) (by decide) (fun q => absurd q (by decide)) (fun _ => ?_)
  refine g_iload_n C dJ5_append_3fe6f_17 1 rfl ?_
  refine g_callSiP C (c_J1_canEncode_fc78d _ _ _ _ _ _ c hc) tw852 tw853 tw31 tw854 rfl ⟨by decide +kernel, by decide +kernel, rfl⟩ ⟨rfl, rfl⟩ (by rw [hR]; exact ⟨by show 0 + 1 ≤ 4; decide, by show _ ≤ 130; decide⟩) (Nat.le_of_ble_eq_true rfl) dJ5_append_3fe6f_18 (by rw [hR]; exact ⟨by show 0 + _ + 0 + 0 ≤ gcl (n + 1) cap; omega, by show 0 + _ + 0 + 0 ≤ gsl (n + 1) cap; omega⟩) (fun r h_2 => ?_)
  refine g_topi (y := 1) h_2 ?_
  refine g_if_eq C dJ5_append_3fe6f_21 (tgt := 45) (by decide) (fun q => absurd q (by decide)) (fun _ => ?_)
  refine g_aload_n C dJ5_append_3fe6f_24 0 rfl ?_
  refine gT_value C hp tw297 dJ5_append_3fe6f_25 ?_
  refine g_aload_n C dJ5_append_3fe6f_28 0 rfl ?_
  refine g_dup C dJ5_append_3fe6f_29 rfl ?_
  refine gT_count C hp tw300 dJ5_append_3fe6f_30 ?_
  refine g_dup_x1 C dJ5_append_3fe6f_33 rfl rfl ?_
  refine g_iconst C dJ5_append_3fe6f_34 (v := 1) (by decide) ?_
  refine g_iadd C dJ5_append_3fe6f_35 ?_
  refine g_topi (y := nI (n + 1)) (nI_1 n) ?_
  refine pT_count C hp tw300 dJ5_append_3fe6f_36 ?_
  refine g_iload_n C dJ5_append_3fe6f_39 1 rfl ?_
  refine g_i2b C dJ5_append_3fe6f_40 ?_
  refine aT_st C hp (by omega) (by omega) dJ5_append_3fe6f_41 ?_
  rw [(by_of hc).1]
  refine g_goto C dJ5_append_3fe6f_42 (tgt := 75) (by decide) ?_
  refine g_aload_n C dJ5_append_3fe6f_75 0 rfl ?_
  exact g_aretR (S := Nat × (Nat → Int32)) (post := fun u => sb_Fit u.2 ∧ u.2 n = nI c ∧ ∀ j, j < n → u.2 j = f j) (WR := fun u q H => q = a ∧ WTx G ws p0 p1 a u.1 (n + 1) (ncap (n + 1) cap) u.2 H) (u.1, upd u.2 n (nI c)) C hr (Or.inl ⟨_, rfl⟩) hQ (by omega) (by omega) dJ5_append_3fe6f_76 ⟨sb_fitU hu.1 (by_of hc).2, pk_us, fun j hj => (pk_un (by omega)).trans (hu.2 j (by omega))⟩ (fun H h => ⟨rfl, h⟩)

/-- StringBuilder.append(char) -/
theorem c_apc (l : Launch) (D : va_G) (cy : Nat → ClassId) (A : Nat → Prop) (sad : Nat → Nat) (ws : va_W) (p0 p1 a b n cap : Nat) (f : Nat → Int32) (hp : okP ws p0 p1) (hcap : cap < 2 ^ 26) (hn : n ≤ cap) (hf : sb_Fit f) (c : Nat) (hc : c < 128) : Met l yJ4_append_cf468 (wsA yJ4_append_cf468 cJ4_append_cf468 2 (some (.object "java/lang/StringBuilder"))) ({ frames := 5, cells := gcl (n + 1) cap, slots := gsl (n + 1) cap, locals := 160 }) (PcH D cy A sad (WTd D cy A ws p0 p1 a b n cap f) [.ref a, .int (nI c)]) (va_Qr (fun (u : Nat × (Nat → Int32)) => sb_Fit u.2 ∧ u.2 n = nI c ∧ ∀ j, j < n → u.2 j = f j) (fun u q t => (fun H => q = a ∧ WTd D cy A ws p0 p1 a u.1 (n + 1) (ncap (n + 1) cap) u.2 H) t.heap) A) (gcl (n + 1) cap) (gsl (n + 1) cap) A := by
  refine met_ofP (fun _ => 0) [(0, .ref a), (1, .int (nI c))] (by decide +kernel) (Nat.le_of_ble_eq_true rfl) rfl ?_
  intro G C hl hR hL hD hcy hA had hsa hr hQ
  subst hD hcy hA hsa hl
  refine g_aload_n C dJ4_append_cf468_0 0 rfl ?_
  refine g_iload_n C dJ4_append_cf468_1 1 rfl ?_
  refine g_callSUr (S := Nat × (Nat → Int32)) (post := fun u => sb_Fit u.2 ∧ u.2 n = nI c ∧ ∀ j, j < n → u.2 j = f j) (WR := fun u q H => q = a ∧ WTx G ws p0 p1 a u.1 (n + 1) (ncap (n + 1) cap) u.2 H) C (c_apc5 _ _ _ _ _ _ _ _ _ _ _ _ _ hp hcap hn hf c hc) (g_cwSU C (mc := gcl (n + 1) cap) (ms := gsl (n + 1) cap) tw849 tw1371 tw309 tw850 tw12 tw851 ⟨by decide +kernel, rfl⟩ ⟨rfl, rfl⟩ (by rw [hR]; exact ⟨by show 4 + 1 ≤ 5; decide, by show 8 + (2 + 11) + 130 ≤ 160; decide⟩)) (rvT C hp) rfl (Nat.le_of_ble_eq_true rfl) dJ4_append_cf468_2 (by rw [hR]; exact ⟨by show 0 + _ ≤ gcl (n + 1) cap; omega, by show 0 + _ ≤ gsl (n + 1) cap; omega⟩) (fun u q hu => ?_)
  refine g_pop C dJ4_append_cf468_5 rfl ?_
  refine g_aload_n C dJ4_append_cf468_6 0 rfl ?_
  exact g_aretR (S := Nat × (Nat → Int32)) (post := fun u => sb_Fit u.2 ∧ u.2 n = nI c ∧ ∀ j, j < n → u.2 j = f j) (WR := fun u q H => q = a ∧ WTx G ws p0 p1 a u.1 (n + 1) (ncap (n + 1) cap) u.2 H) u C hr (Or.inl ⟨_, rfl⟩) hQ (by omega) (by omega) dJ4_append_cf468_7 hu (fun H h => ⟨rfl, h.2⟩)

/-- Integer.stringSize, below a million -/
theorem c_ssize (l : Launch) (D : va_G) (cy : Nat → ClassId) (A : Nat → Prop) (sad : Nat → Nat) (Wp : Heap → Prop) (v : Nat) (hv : v < 1000000) : Met l yJ6_stringSize_0f7a4 (wsA yJ6_stringSize_0f7a4 cJ6_stringSize_0f7a4 4 (some .int)) ({ frames := 0, cells := 0, slots := 0, locals := 0 }) (PcH D cy A sad Wp [.int (nI v)]) (QiP A Wp (fun r => r = nI (sb_dg v))) 0 0 A := by
  refine met_ofP (fun _ => 0) [(0, .int (nI v))] (by decide +kernel) (Nat.le_of_ble_eq_true rfl) rfl ?_
  intro G C hl hR hL hD hcy hA had hsa hr hQ
  subst hD hcy hA hsa hl
  have lp : ∀ m k : Nat, k + m = 7 → 1 ≤ k → (k = 1 ∨ 10 ^ (k - 1) ≤ v) → ∀ p : Int32, p = -nI (10 ^ k) → GH G Wp [(3, .int (nI k)), (2, .int p), (0, .int (-nI v)), (1, .int 0)] 0 0 16 [] := by
    intro m
    induction m with
    | zero =>
      intro k hk h1 h2 p hp
      obtain rfl : k = 7 := by omega
      rcases h2 with h2 | h2
      · omega
      · exact absurd h2 (by show ¬ 1000000 ≤ v; omega)
    | succ m ih =>
      intro k hk h1 h2 p hp
      subst hp
      have hk6 : k = 1 ∨ k = 2 ∨ k = 3 ∨ k = 4 ∨ k = 5 ∨ k = 6 := by omega
      have hb : 10 ^ k < 2 ^ 31 := by rcases hk6 with h | h | h | h | h | h <;> subst h <;> decide
      refine g_iload_n C dJ6_stringSize_0f7a4_16 0 rfl ?_
      refine g_bipush C dJ6_stringSize_0f7a4_17 (v := 10) (by decide) ?_
      refine g_icmp_ge C dJ6_stringSize_0f7a4_19 (tgt := 42) (by decide) (fun c => absurd c (nI_ge (a := k) (b := 10) (by omega) (by omega))) (fun c => ?_)
      refine g_iload_n C dJ6_stringSize_0f7a4_22 2 rfl ?_
      refine g_iload_n C dJ6_stringSize_0f7a4_23 1 rfl ?_
      refine g_icmp_le C dJ6_stringSize_0f7a4_24 (tgt := 31) (by decide) (fun c => ?_) (fun c => ?_)
      · have hge : 10 ^ k ≤ v := (sb_nle (by omega) hb).mp c
        refine g_bipush C dJ6_stringSize_0f7a4_31 (v := 10) (by decide) ?_
        refine g_iload_n C dJ6_stringSize_0f7a4_33 1 rfl ?_
        refine g_imul C dJ6_stringSize_0f7a4_34 ?_
        refine g_topi (y := -nI (10 ^ (k + 1))) (by rcases hk6 with h | h | h | h | h | h <;> subst h <;> decide +kernel) ?_
        refine g_istore_n C dJ6_stringSize_0f7a4_35 (L' := [(2, .int (-nI (10 ^ (k + 1)))), (3, .int (nI k)), (0, .int (-nI v)), (1, .int 0)]) rfl (by rw [hL]; decide) ?_
        refine g_iinc C dJ6_stringSize_0f7a4_36 1 rfl (v := nI (k + 1)) (nI_1 _) (L' := [(3, .int (nI (k + 1))), (2, .int (-nI (10 ^ (k + 1)))), (0, .int (-nI v)), (1, .int 0)]) rfl (by rw [hL]; decide) ?_
        refine g_goto C dJ6_stringSize_0f7a4_39 (tgt := 16) (by decide) ?_
        exact ih (k + 1) (by omega) (by omega) (Or.inr (by rw [Nat.add_sub_cancel]; exact hge)) _ rfl
      · have hlt : v < 10 ^ k := Nat.lt_of_not_le (fun q => c ((sb_nle (by omega) hb).mpr q))
        refine g_iload_n C dJ6_stringSize_0f7a4_27 0 rfl ?_
        refine g_iload_n C dJ6_stringSize_0f7a4_28 3 rfl ?_
        refine g_iadd C dJ6_stringSize_0f7a4_29 ?_
        refine g_topi (y := nI k) (nI_add k 0) ?_
        refine g_iretP C hr hQ (by decide) (by decide) dJ6_stringSize_0f7a4_30 ?_
        rcases hk6 with h | h | h | h | h | h <;> subst h <;> (congr 1; simp only [Nat.reducePow, Nat.reduceSub, Nat.pow_one, Nat.pow_zero] at hlt h2; unfold sb_dg; (repeat' split) <;> omega)
  refine g_iconst C dJ6_stringSize_0f7a4_0 (v := 1) (by decide) ?_
  refine g_istore_n C dJ6_stringSize_0f7a4_1 (L' := [(1, .int 1), (0, .int (nI v))]) rfl (by rw [hL]; decide) ?_
  refine g_iload_n C dJ6_stringSize_0f7a4_2 1 rfl ?_
  refine g_if_lt C dJ6_stringSize_0f7a4_3 (tgt := 11) (by decide) (fun c => absurd c (nI_pos (by omega))) (fun c => ?_)
  refine g_iconst C dJ6_stringSize_0f7a4_6 (v := 0) (by decide) ?_
  refine g_istore_n C dJ6_stringSize_0f7a4_7 (L' := [(1, .int 0), (0, .int (nI v))]) rfl (by rw [hL]; decide) ?_
  refine g_iload_n C dJ6_stringSize_0f7a4_8 1 rfl ?_
  refine g_ineg C dJ6_stringSize_0f7a4_9 ?_
  refine g_istore_n C dJ6_stringSize_0f7a4_10 (L' := [(0, .int (-nI v)), (1, .int 0)]) rfl (by rw [hL]; decide) ?_
  refine g_bipush C dJ6_stringSize_0f7a4_11 (v := -10) (by decide) ?_
  refine g_istore_n C dJ6_stringSize_0f7a4_13 (L' := [(2, .int (-10)), (0, .int (-nI v)), (1, .int 0)]) rfl (by rw [hL]; decide) ?_
  refine g_iconst C dJ6_stringSize_0f7a4_14 (v := 1) (by decide) ?_
  refine g_istore_n C dJ6_stringSize_0f7a4_15 (L' := [(3, .int (nI 1)), (2, .int (-10)), (0, .int (-nI v)), (1, .int 0)]) rfl (by rw [hL]; decide) ?_
  exact lp 6 1 rfl (by omega) (Or.inl rfl) _ (by decide)

theorem dg_of {d : Nat} (h : d < 10) : vp_nar .byte (nI (48 + d)) = nI (48 + d) ∧ fits .byte (.int (nI (48 + d))) = true := (by decide +kernel : ∀ d : Fin 10, vp_nar .byte (nI (48 + d.val)) = nI (48 + d.val) ∧ fits .byte (.int (nI (48 + d.val))) = true) ⟨d, h⟩
/-- the digits of w, backwards from p -/
def gcp (p w : Nat) (f f' : Nat → Int32) : Prop := (∀ j, j < p - sb_dg w ∨ p ≤ j → f' j = f j) ∧ (∀ i, i < sb_dg w → f' (p - 1 - i) = nI (48 + w / 10 ^ i % 10)) ∧ (sb_Fit f → sb_Fit f')
/-- Integer.getChars -/
theorem c_gchars (l : Launch) (D : va_G) (cy : Nat → ClassId) (A : Nat → Prop) (sad : Nat → Nat) (ws : va_W) (p0 p1 a b n cap : Nat) (f : Nat → Int32) (hp : okP ws p0 p1) (hcap : cap < 2 ^ 28) (w p : Nat) (hw : w < 2 ^ 31) (hd : sb_dg w ≤ p) (hpc : p ≤ cap) : Met l yJ6_getChars_ba4f3 (wsA yJ6_getChars_ba4f3 cJ6_getChars_ba4f3 7 (some .int)) ({ frames := 0, cells := 0, slots := 0, locals := 0 }) (PcH D cy A sad (WTd D cy A ws p0 p1 a b n cap f) [.int (nI w), .int (nI p), .ref b]) (va_Qi (fun _ (f' : Nat → Int32) => gcp p w f f') (fun f' t => (WTd D cy A ws p0 p1 a b n cap f') t.heap) A) 0 0 A := by
  refine met_ofP (fun _ => 0) [(0, .int (nI w)), (1, .int (nI p)), (2, .ref b)] (by decide +kernel) (Nat.le_of_ble_eq_true rfl) rfl ?_
  intro G C hl hR hL hD hcy hA had hsa hr hQ
  subst hD hcy hA hsa hl
  have lp : ∀ (m w' p' : Nat) (g : Nat → Int32) (q r : Value) (L : List (Nat × Value)), w' < m → w' < 2 ^ 31 → sb_dg w' ≤ p' → p' ≤ cap → L = [(5, .int (nI p')), (0, .int (-nI w')), (6, .int 0), (1, .int (nI p)), (2, .ref b)] → (∀ g', gcp p' w' g g' → gcp p w f g') → GH G (WTx G ws p0 p1 a b n cap g) L 0 0 22 [] := by
    intro m
    induction m with
    | zero => intro w' p' g q r L h; omega
    | succ m ih =>
      intro w' p' g q r L hm hw' hd' hp' eL hg
      subst eL
      have hd1 := (sb_dg_in w').1
      have e1 : -(-nI w') = nI w' := Int32.neg_neg
      refine g_iload_n C dJ6_getChars_ba4f3_22 1 rfl ?_
      refine g_bipush C dJ6_getChars_ba4f3_23 (v := -100) (by decide) ?_
      refine g_icmp_gt C dJ6_getChars_ba4f3_25 (tgt := 72) (by decide) (fun c => ?_) (fun c => ?_)
      · have h100 : w' < 100 := (sb_nlt (a := 100) (by decide) hw').mp c
        refine g_aload_n C dJ6_getChars_ba4f3_72 4 rfl ?_
        refine g_iinc C dJ6_getChars_ba4f3_73 0 rfl (v := nI (p' - 1)) (sb_m1 (by omega)) (L' := [(5, .int (nI (p' - 1))), (0, .int (-nI w')), (6, .int 0), (1, .int (nI p)), (2, .ref b)]) rfl (by rw [hL]; decide) ?_
        refine g_iload C dJ6_getChars_ba4f3_76 0 rfl ?_
        refine g_ones C tw810 dJ6_getChars_ba4f3_78 (fun t hT => ?_)
        refine g_iload_n C dJ6_getChars_ba4f3_81 1 rfl ?_
        refine g_ineg C dJ6_getChars_ba4f3_82 ?_
        refine g_topi (y := nI w') e1 ?_
        refine g_tabl C hT h100 dJ6_getChars_ba4f3_83 ?_
        refine aT_st C hp (by omega) (by omega) dJ6_getChars_ba4f3_84 ?_
        rw [(dg_of (by omega)).1]
        refine g_iload_n C dJ6_getChars_ba4f3_85 1 rfl ?_
        refine g_bipush C dJ6_getChars_ba4f3_86 (v := -9) (by decide) ?_
        refine g_icmp_ge C dJ6_getChars_ba4f3_88 (tgt := 104) (by decide) (fun c9 => ?_) (fun c9 => ?_)
        · have h9 : w' < 10 := by have := (sb_nle (a := 9) (by decide) hw').mp c9; omega
          have hdg : sb_dg w' = 1 := if_pos h9
          refine g_iload C dJ6_getChars_ba4f3_104 2 rfl ?_
          refine g_if_eq C dJ6_getChars_ba4f3_106 (tgt := 118) (by decide) (fun _ => ?_) (fun z => absurd rfl z)
          refine g_iload C dJ6_getChars_ba4f3_118 0 rfl ?_
          refine g_iret (S := Nat → Int32) (WQ := fun f' => WTx G ws p0 p1 a b n cap f') (post := fun _ f' => gcp p w f f') _ C hr hQ (by decide) (by decide) dJ6_getChars_ba4f3_120 (hg _ ⟨fun j hj => pk_un (by omega), fun i hi => ?_, fun hf => sb_fitU hf (dg_of (by omega)).2⟩) (fun H h => h)
          obtain rfl : i = 0 := by omega
          rw [Nat.sub_zero, pk_us, Nat.pow_zero, Nat.div_one]
        · have h9 : ¬ w' < 10 := fun q => c9 ((sb_nle (a := 9) (by decide) hw').mpr (by omega))
          have hdg : sb_dg w' = 2 := by rw [sb_dg, if_neg h9, if_pos h100]
          refine g_aload_n C dJ6_getChars_ba4f3_91 4 rfl ?_
          refine g_iinc C dJ6_getChars_ba4f3_92 0 rfl (v := nI (p' - 1 - 1)) (sb_m1 (by omega)) (L' := [(5, .int (nI (p' - 1 - 1))), (0, .int (-nI w')), (6, .int 0), (1, .int (nI p)), (2, .ref b)]) rfl (by rw [hL]; decide) ?_
          refine g_iload C dJ6_getChars_ba4f3_95 0 rfl ?_
          refine g_tens C tw812 dJ6_getChars_ba4f3_97 (fun t hT => ?_)
          refine g_iload_n C dJ6_getChars_ba4f3_100 1 rfl ?_
          refine g_ineg C dJ6_getChars_ba4f3_101 ?_
          refine g_topi (y := nI w') e1 ?_
          refine g_tabl C hT h100 dJ6_getChars_ba4f3_102 ?_
          refine aT_st C hp (by omega) (by omega) dJ6_getChars_ba4f3_103 ?_
          rw [(dg_of (by omega)).1]
          refine g_iload C dJ6_getChars_ba4f3_104 2 rfl ?_
          refine g_if_eq C dJ6_getChars_ba4f3_106 (tgt := 118) (by decide) (fun _ => ?_) (fun z => absurd rfl z)
          refine g_iload C dJ6_getChars_ba4f3_118 0 rfl ?_
          refine g_iret (S := Nat → Int32) (WQ := fun f' => WTx G ws p0 p1 a b n cap f') (post := fun _ f' => gcp p w f f') _ C hr hQ (by decide) (by decide) dJ6_getChars_ba4f3_120 (hg _ ⟨fun j hj => by rw [pk_un (by omega), pk_un (by omega)], fun i hi => ?_, fun hf => sb_fitU (sb_fitU hf (dg_of (by omega)).2) (dg_of (by omega)).2⟩) (fun H h => h)
          obtain rfl | rfl : i = 0 ∨ i = 1 := by omega
          · rw [Nat.sub_zero, pk_un (by omega), pk_us, Nat.pow_zero, Nat.div_one]
          · rw [pk_us, Nat.pow_one, show w' / 10 % 10 = w' / 10 by omega]
      · have h100 : ¬ w' < 100 := fun q => c ((sb_nlt (a := 100) (by decide) hw').mpr q)
        have hdg := sb_dg100 (w := w') (by omega) hw'
        have hdg2 := (sb_dg_in (w' / 100)).1
        refine g_iload_n C dJ6_getChars_ba4f3_28 1 rfl ?_
        refine g_bipush C dJ6_getChars_ba4f3_29 (v := 100) (by decide) ?_
        refine g_idiv C dJ6_getChars_ba4f3_31 (by decide) ?_
        refine g_topi (y := -nI (w' / 100)) (sb_ndiv hw') ?_
        refine g_istore_n C dJ6_getChars_ba4f3_32 (L' := [(3, .int (-nI (w' / 100))), (5, .int (nI p')), (0, .int (-nI w')), (6, .int 0), (1, .int (nI p)), (2, .ref b)]) rfl (by rw [hL]; decide) ?_
        refine g_iload_n C dJ6_getChars_ba4f3_33 0 rfl ?_
        refine g_bipush C dJ6_getChars_ba4f3_34 (v := 100) (by decide) ?_
        refine g_imul C dJ6_getChars_ba4f3_36 ?_
        refine g_iload_n C dJ6_getChars_ba4f3_37 2 rfl ?_
        refine g_isub C dJ6_getChars_ba4f3_38 ?_
        refine g_topi (y := nI (w' % 100)) (sb_nrem hw') ?_
        refine g_istore C dJ6_getChars_ba4f3_39 (L' := [(4, .int (nI (w' % 100))), (3, .int (-nI (w' / 100))), (5, .int (nI p')), (0, .int (-nI w')), (6, .int 0), (1, .int (nI p)), (2, .ref b)]) rfl (by rw [hL]; decide) ?_
        refine g_iload_n C dJ6_getChars_ba4f3_41 1 rfl ?_
        refine g_istore_n C dJ6_getChars_ba4f3_42 (L' := [(0, .int (-nI (w' / 100))), (4, .int (nI (w' % 100))), (3, .int (-nI (w' / 100))), (5, .int (nI p')), (6, .int 0), (1, .int (nI p)), (2, .ref b)]) rfl (by rw [hL]; decide) ?_
        refine g_aload_n C dJ6_getChars_ba4f3_43 6 rfl ?_
        refine g_iinc C dJ6_getChars_ba4f3_44 3 rfl (v := nI (p' - 1)) (sb_m1 (by omega)) (L' := [(5, .int (nI (p' - 1))), (0, .int (-nI (w' / 100))), (4, .int (nI (w' % 100))), (3, .int (-nI (w' / 100))), (6, .int 0), (1, .int (nI p)), (2, .ref b)]) rfl (by rw [hL]; decide) ?_
        refine g_iload C dJ6_getChars_ba4f3_47 0 rfl ?_
        refine g_ones C tw810 dJ6_getChars_ba4f3_49 (fun t hT => ?_)
        refine g_iload C dJ6_getChars_ba4f3_52 2 rfl ?_
        refine g_tabl C hT (Nat.mod_lt _ (by decide)) dJ6_getChars_ba4f3_54 ?_
        refine aT_st C hp (by omega) (by omega) dJ6_getChars_ba4f3_55 ?_
        rw [(dg_of (by omega)).1]
        refine g_aload_n C dJ6_getChars_ba4f3_56 6 rfl ?_
        refine g_iinc C dJ6_getChars_ba4f3_57 0 rfl (v := nI (p' - 1 - 1)) (sb_m1 (by omega)) (L' := [(5, .int (nI (p' - 1 - 1))), (0, .int (-nI (w' / 100))), (4, .int (nI (w' % 100))), (3, .int (-nI (w' / 100))), (6, .int 0), (1, .int (nI p)), (2, .ref b)]) rfl (by rw [hL]; decide) ?_
        refine g_iload C dJ6_getChars_ba4f3_60 0 rfl ?_
        refine g_tens C tw812 dJ6_getChars_ba4f3_62 (fun t2 hT2 => ?_)
        refine g_iload C dJ6_getChars_ba4f3_65 2 rfl ?_
        refine g_tabl C hT2 (Nat.mod_lt _ (by decide)) dJ6_getChars_ba4f3_67 ?_
        refine aT_st C hp (by omega) (by omega) dJ6_getChars_ba4f3_68 ?_
        rw [(dg_of (d := w' % 100 / 10) (by omega)).1]
        refine g_goto C dJ6_getChars_ba4f3_69 (tgt := 22) (by decide) ?_
        refine g_sub [0, 1, 4, 5, 6] rfl (ih (w' / 100) (p' - 1 - 1) _ (.int 0) (.int 0) _ (by omega) (by omega) (by omega) (by omega) rfl (fun g' hg' => hg g' ⟨fun j hj => ?_, fun i hi => ?_, fun hf => hg'.2.2 (sb_fitU (sb_fitU hf (dg_of (by omega)).2) (dg_of (by omega)).2)⟩))
        · rw [hg'.1 j (by omega), pk_un (by omega), pk_un (by omega)]
        · match i, hi with
          | 0, _ => rw [Nat.sub_zero, hg'.1 _ (by omega), pk_un (by omega), pk_us, Nat.pow_zero, Nat.div_one, show w' % 100 % 10 = w' % 10 by omega]
          | 1, _ => rw [hg'.1 _ (by omega), pk_us, Nat.pow_one, show w' % 100 / 10 = w' / 10 % 10 by omega]
          | k + 2, hi => rw [show p' - 1 - (k + 2) = p' - 1 - 1 - 1 - k by omega, hg'.2.1 k (by omega), Nat.div_div_eq_div_mul, show 100 * 10 ^ k = 10 ^ (k + 2) by rw [show k + 2 = k + 1 + 1 from rfl, Nat.pow_succ, Nat.pow_succ]; omega]
  refine g_iload_n C dJ6_getChars_ba4f3_0 1 rfl ?_
  refine g_istore C dJ6_getChars_ba4f3_1 (L' := [(5, .int (nI p)), (0, .int (nI w)), (1, .int (nI p)), (2, .ref b)]) rfl (by rw [hL]; decide) ?_
  refine g_iload_n C dJ6_getChars_ba4f3_3 1 rfl ?_
  refine g_if_ge C dJ6_getChars_ba4f3_4 (tgt := 11) (by decide) (fun _ => ?_) (fun z => absurd (nI_pos' hw) z)
  refine g_iconst C dJ6_getChars_ba4f3_11 (v := 0) (by decide) ?_
  refine g_istore C dJ6_getChars_ba4f3_12 (L' := [(6, .int 0), (5, .int (nI p)), (0, .int (nI w)), (1, .int (nI p)), (2, .ref b)]) rfl (by rw [hL]; decide) ?_
  refine g_iload C dJ6_getChars_ba4f3_14 0 rfl ?_
  refine g_if_ne C dJ6_getChars_ba4f3_16 (tgt := 22) (by decide) (fun z => absurd rfl z) (fun _ => ?_)
  refine g_iload_n C dJ6_getChars_ba4f3_19 2 rfl ?_
  refine g_ineg C dJ6_getChars_ba4f3_20 ?_
  refine g_istore_n C dJ6_getChars_ba4f3_21 (L' := [(0, .int (-nI w)), (6, .int 0), (5, .int (nI p)), (1, .int (nI p)), (2, .ref b)]) rfl (by rw [hL]; decide) ?_
  exact g_sub [2, 0, 1, 3, 4] rfl (lp (w + 1) w p f (.int 0) (.int 0) _ (by omega) hw hd hpc rfl (fun g' h => h))

theorem sb_dg6 {v : Nat} (h : v < 1000000) : sb_dg v ≤ 6 := by
  unfold sb_dg
  (repeat' split) <;> omega
def apip (v n : Nat) (f : Nat → Int32) (u : Nat × (Nat → Int32)) : Prop := sb_Fit u.2 ∧ (∀ j, j < n → u.2 j = f j) ∧ ∀ i, i < sb_dg v → u.2 (n + sb_dg v - 1 - i) = nI (48 + v / 10 ^ i % 10)
/-- AbstractStringBuilder.append(int) -/
theorem c_api5 (l : Launch) (D : va_G) (cy : Nat → ClassId) (A : Nat → Prop) (sad : Nat → Nat) (ws : va_W) (p0 p1 a b n cap : Nat) (f : Nat → Int32) (hp : okP ws p0 p1) (hcap : cap < 2 ^ 26) (h16 : 16 ≤ cap) (hn : n ≤ cap) (hf : sb_Fit f) (v : Nat) (hv : v < 1000000) : Met l yJ5_append_c97b9 (wsA yJ5_append_c97b9 cJ5_append_c97b9 4 (some (.object "java/lang/AbstractStringBuilder"))) ({ frames := 4, cells := gcl (n + sb_dg v) cap, slots := gsl (n + sb_dg v) cap, locals := 130 }) (PcH D cy A sad (WTd D cy A ws p0 p1 a b n cap f) [.ref a, .int (nI v)]) (va_Qr (fun (u : Nat × (Nat → Int32)) => apip v n f u) (fun u q t => (fun H => q = a ∧ WTd D cy A ws p0 p1 a u.1 (n + sb_dg v) (ncap (n + sb_dg v) cap) u.2 H) t.heap) A) (gcl (n + sb_dg v) cap) (gsl (n + sb_dg v) cap) A := by
  refine met_ofP (fun _ => 0) [(0, .ref a), (1, .int (nI v))] (by decide +kernel) (Nat.le_of_ble_eq_true rfl) rfl ?_
  intro G C hl hR hL hD hcy hA had hsa hr hQ
  subst hD hcy hA hsa hl
  have hdg := (sb_dg_in v).1
  have hdg6 := sb_dg6 hv
  have hc1 : n + sb_dg v ≤ ncap (n + sb_dg v) cap := ncap_le (by omega)
  have hc2 : ncap (n + sb_dg v) cap < 2 ^ 28 := by unfold ncap; split <;> omega
  refine g_aload_n C dJ5_append_c97b9_0 0 rfl ?_
  refine gT_count C hp tw300 dJ5_append_c97b9_1 ?_
  refine g_istore_n C dJ5_append_c97b9_4 (L' := [(2, .int (nI n)), (0, .ref a), (1, .int (nI v))]) rfl (by rw [hL]; decide) ?_
  refine g_iload_n C dJ5_append_c97b9_5 0 rfl ?_
  refine g_iload_n C dJ5_append_c97b9_6 2 rfl ?_
  refine g_callSiP C (c_ssize _ _ _ _ _ _ v hv) tw768 tw769 tw25 tw770 rfl ⟨by decide +kernel, by decide +kernel, rfl⟩ ⟨rfl, rfl⟩ (by rw [hR]; exact ⟨by show 0 + 1 ≤ 4; decide, by show _ ≤ 130; decide⟩) (Nat.le_of_ble_eq_true rfl) dJ5_append_c97b9_7 (by rw [hR]; exact ⟨by show 0 + 0 ≤ gcl _ _; omega, by show 0 + 0 ≤ gsl _ _; omega⟩) (fun r h_1 => ?_)
  refine g_topi (y := nI (sb_dg v)) h_1 ?_
  refine g_iadd C dJ5_append_c97b9_10 ?_
  refine g_topi (y := nI (n + sb_dg v)) (nI_add _ _) ?_
  refine g_istore_n C dJ5_append_c97b9_11 (L' := [(3, .int (nI (n + sb_dg v))), (2, .int (nI n)), (0, .ref a), (1, .int (nI v))]) rfl (by rw [hL]; decide) ?_
  refine g_aload_n C dJ5_append_c97b9_12 2 rfl ?_
  refine g_iload_n C dJ5_append_c97b9_13 0 rfl ?_
  refine g_callUv (S := Nat × (Nat → Int32)) (WQ := fun u => WTx G ws p0 p1 a u.1 n (ncap (n + sb_dg v) cap) u.2) (post := fun u => sb_Fit u.2 ∧ ∀ j, j < cap → u.2 j = f j) C (c_ens _ _ _ _ _ _ _ _ _ _ _ _ _ hp hcap hn (n + sb_dg v) (by omega) hf) (g_cwU C (mc := gcl (n + sb_dg v) cap) (ms := gsl (n + sb_dg v) cap) tw771 tw1369 tw773 (selT C (by decide)) tw12 tw774 ⟨by decide +kernel, by decide +kernel, rfl⟩ ⟨rfl, rfl⟩ (by rw [hR]; exact ⟨by show 3 + 1 ≤ 4; decide, by show 8 + (3 + 11) + 100 ≤ 130; decide⟩)) (rvT C hp) rfl (Nat.le_of_ble_eq_true rfl) dJ5_append_c97b9_14 (by rw [hR]; exact ⟨by show 0 + 0 + _ ≤ gcl (n + sb_dg v) cap; omega, by show 0 + 0 + _ ≤ gsl (n + sb_dg v) cap; omega⟩) (fun u hu => ?_)
  refine g_aload_n C dJ5_append_c97b9_17 2 rfl ?_
  refine g_callUiP C (c_J5_isLatin1_aae02 _ _ _ _ _ _ _ _ _ _ _ _ _ hp hc2 (by omega)) (g_cwU C (mc := 0) (ms := 0) tw802 tw804 tw803 (C.ts _ tw805) tw12 tw806 ⟨by decide +kernel, by decide +kernel, rfl⟩ ⟨rfl, rfl⟩ (by rw [hR]; exact ⟨by show 0 + 1 ≤ 4; decide, by show _ ≤ 130; decide⟩)) (rvT C hp) rfl (Nat.le_of_ble_eq_true rfl) dJ5_append_c97b9_18 (by rw [hR]; exact ⟨by show 0 + 0 + _ + 0 ≤ gcl (n + sb_dg v) cap; omega, by show 0 + 0 + _ + 0 ≤ gsl (n + sb_dg v) cap; omega⟩) (fun r h_2 => ?_)
  refine g_topi (y := 1) h_2 ?_
  refine g_if_eq C dJ5_append_c97b9_21 (tgt := 37) (by decide) (fun q => absurd q (by decide)) (fun _ => ?_)
  refine g_iload_n C dJ5_append_c97b9_24 3 rfl ?_
  refine g_iload_n C dJ5_append_c97b9_25 0 rfl ?_
  refine g_aload_n C dJ5_append_c97b9_26 2 rfl ?_
  refine gT_value C hp tw297 dJ5_append_c97b9_27 ?_
  refine g_callSi (S := Nat → Int32) (WQ := fun f' => WTx G ws p0 p1 a u.1 n (ncap (n + sb_dg v) cap) f') (post := fun _ f' => gcp (n + sb_dg v) v u.2 f') C (c_gchars _ _ _ _ _ _ _ _ _ _ n _ _ hp hc2 v (n + sb_dg v) (by omega) (by omega) hc1) tw807 tw808 tw25 tw809 ⟨by decide +kernel, by decide +kernel, rfl⟩ ⟨rfl, rfl⟩ (by rw [hR]; exact ⟨by show 0 + 1 ≤ 4; decide, by show _ ≤ 130; decide⟩) rfl (Nat.le_of_ble_eq_true rfl) dJ5_append_c97b9_30 (by rw [hR]; exact ⟨by show 0 + 0 + _ + 0 + 0 ≤ gcl (n + sb_dg v) cap; omega, by show 0 + 0 + _ + 0 + 0 ≤ gsl (n + sb_dg v) cap; omega⟩) (fun r f' hg => ?_)
  refine g_pop C dJ5_append_c97b9_33 rfl ?_
  refine g_goto C dJ5_append_c97b9_34 (tgt := 48) (by decide) ?_
  refine g_aload_n C dJ5_append_c97b9_48 2 rfl ?_
  refine g_iload_n C dJ5_append_c97b9_49 0 rfl ?_
  refine pT_count C hp tw300 dJ5_append_c97b9_50 ?_
  refine g_aload_n C dJ5_append_c97b9_53 2 rfl ?_
  exact g_aretR (S := Nat × (Nat → Int32)) (post := fun u => apip v n f u) (WR := fun u q H => q = a ∧ WTx G ws p0 p1 a u.1 (n + sb_dg v) (ncap (n + sb_dg v) cap) u.2 H) (u.1, f') C hr (Or.inl ⟨_, rfl⟩) hQ (by omega) (by omega) dJ5_append_c97b9_54 ⟨hg.2.2 hu.1, fun j hj => (hg.1 j (by omega)).trans (hu.2 j (by omega)), hg.2.1⟩ (fun H h => ⟨rfl, h⟩)

/-- StringBuilder.append(int) -/
theorem c_api (l : Launch) (D : va_G) (cy : Nat → ClassId) (A : Nat → Prop) (sad : Nat → Nat) (ws : va_W) (p0 p1 a b n cap : Nat) (f : Nat → Int32) (hp : okP ws p0 p1) (hcap : cap < 2 ^ 26) (h16 : 16 ≤ cap) (hn : n ≤ cap) (hf : sb_Fit f) (v : Nat) (hv : v < 1000000) : Met l yJ4_append_bf812 (wsA yJ4_append_bf812 cJ4_append_bf812 2 (some (.object "java/lang/StringBuilder"))) ({ frames := 5, cells := gcl (n + sb_dg v) cap, slots := gsl (n + sb_dg v) cap, locals := 160 }) (PcH D cy A sad (WTd D cy A ws p0 p1 a b n cap f) [.ref a, .int (nI v)]) (va_Qr (fun (u : Nat × (Nat → Int32)) => apip v n f u) (fun u q t => (fun H => q = a ∧ WTd D cy A ws p0 p1 a u.1 (n + sb_dg v) (ncap (n + sb_dg v) cap) u.2 H) t.heap) A) (gcl (n + sb_dg v) cap) (gsl (n + sb_dg v) cap) A := by
  refine met_ofP (fun _ => 0) [(0, .ref a), (1, .int (nI v))] (by decide +kernel) (Nat.le_of_ble_eq_true rfl) rfl ?_
  intro G C hl hR hL hD hcy hA had hsa hr hQ
  subst hD hcy hA hsa hl
  refine g_aload_n C dJ4_append_bf812_0 0 rfl ?_
  refine g_iload_n C dJ4_append_bf812_1 1 rfl ?_
  refine g_callSUr (S := Nat × (Nat → Int32)) (post := fun u => apip v n f u) (WR := fun u q H => q = a ∧ WTx G ws p0 p1 a u.1 (n + sb_dg v) (ncap (n + sb_dg v) cap) u.2 H) C (c_api5 _ _ _ _ _ _ _ _ _ _ _ _ _ hp hcap h16 hn hf v hv) (g_cwSU C (mc := gcl (n + sb_dg v) cap) (ms := gsl (n + sb_dg v) cap) tw765 tw1368 tw309 tw766 tw12 tw767 ⟨by decide +kernel, rfl⟩ ⟨rfl, rfl⟩ (by rw [hR]; exact ⟨by show 4 + 1 ≤ 5; decide, by show 8 + (4 + 11) + 130 ≤ 160; decide⟩)) (rvT C hp) rfl (Nat.le_of_ble_eq_true rfl) dJ4_append_bf812_2 (by rw [hR]; exact ⟨by show 0 + _ ≤ gcl (n + sb_dg v) cap; omega, by show 0 + _ ≤ gsl (n + sb_dg v) cap; omega⟩) (fun u q hu => ?_)
  refine g_pop C dJ4_append_bf812_5 rfl ?_
  refine g_aload_n C dJ4_append_bf812_6 0 rfl ?_
  exact g_aretR (S := Nat × (Nat → Int32)) (post := fun u => apip v n f u) (WR := fun u q H => q = a ∧ WTx G ws p0 p1 a u.1 (n + sb_dg v) (ncap (n + sb_dg v) cap) u.2 H) u C hr (Or.inl ⟨_, rfl⟩) hQ (by omega) (by omega) dJ4_append_bf812_7 hu (fun H h => ⟨rfl, h.2⟩)
