/-! the JDK's members over texts -/
set_option maxHeartbeats 400000 in
/-- StringLatin1.canEncode -/
theorem c_J1_canEncode_fc78d (l : Launch) (D : va_G) (cy : Nat → ClassId) (A : Nat → Prop) (sad : Nat → Nat) (Wp : Heap → Prop) (c : Nat) (hc : c < 128) : Met l yJ1_canEncode_fc78d (wsA yJ1_canEncode_fc78d cJ1_canEncode_fc78d 1 (some .boolean)) ({ frames := 0, cells := 0, slots := 0, locals := 0 }) (PcH D cy A sad Wp [.int (nI c)]) (QiP A Wp (fun r => r = 1)) 0 0 A := by
  refine met_ofP (fun _ => 0) [(0, .int (nI c))] (by decide +kernel) (Nat.le_of_ble_eq_true rfl) rfl ?_
  intro G C hl hR hL hD hcy hA had hsa hr hQ
  subst hD hcy hA hsa hl
  refine g_iload_n C dJ1_canEncode_fc78d_0 0 rfl ?_
  refine g_sipush C dJ1_canEncode_fc78d_1 (v := 255) (by decide) ?_
  refine g_icmp_gt C dJ1_canEncode_fc78d_4 (tgt := 11) (by decide) (fun c_4 => absurd c_4 (nI_nlt (a := 255) (b := c) (by omega) (by omega))) (fun c_4 => ?_)
  refine g_iconst C dJ1_canEncode_fc78d_7 (v := 1) (by decide) ?_
  refine g_goto C dJ1_canEncode_fc78d_8 (tgt := 12) (by decide) ?_
  refine g_zretP C hr (by decide) hQ (by decide) (by decide) dJ1_canEncode_fc78d_12 ?_
  exact (by first | with_reducible rfl | (first | with_reducible rfl | (simp only [sa_ap, si_ap, si_sa, sa_sa, sa_3, sa_4, sa_5, sa_6, sa_7, sa_8]; done) | (simp [sa_ap, si_ap, si_sa, sa_sa, sa_3, sa_4, sa_5, sa_6, sa_7, sa_8]; done)))

set_option maxHeartbeats 400000 in
/-- Preconditions.checkIndex -/
theorem c_J3_checkIndex_8e157 (l : Launch) (D : va_G) (cy : Nat → ClassId) (A : Nat → Prop) (sad : Nat → Nat) (Wp : Heap → Prop) (i z v : Nat) (hi : i < z) (hz : z < 2 ^ 31) : Met l yJ3_checkIndex_8e157 (wsA yJ3_checkIndex_8e157 cJ3_checkIndex_8e157 3 (some .int)) ({ frames := 0, cells := 0, slots := 0, locals := 0 }) (PcH D cy A sad Wp [.int (nI i), .int (nI z), .ref v]) (QiP A Wp (fun r => r = nI i)) 0 0 A := by
  refine met_ofP (fun _ => 0) [(0, .int (nI i)), (1, .int (nI z)), (2, .ref v)] (by decide +kernel) (Nat.le_of_ble_eq_true rfl) rfl ?_
  intro G C hl hR hL hD hcy hA had hsa hr hQ
  subst hD hcy hA hsa hl
  refine g_iload_n C dJ3_checkIndex_8e157_0 0 rfl ?_
  refine g_if_lt C dJ3_checkIndex_8e157_1 (tgt := 9) (by decide) (fun c_1 => absurd c_1 (nI_pos (by omega))) (fun c_1 => ?_)
  refine g_iload_n C dJ3_checkIndex_8e157_4 0 rfl ?_
  refine g_iload_n C dJ3_checkIndex_8e157_5 1 rfl ?_
  refine g_icmp_lt C dJ3_checkIndex_8e157_6 (tgt := 16) (by decide) (fun c_6 => ?_) (fun c_6 => absurd (nI_lt hi hz) c_6)
  refine g_iload_n C dJ3_checkIndex_8e157_16 0 rfl ?_
  refine g_iretP C hr hQ (by decide) (by decide) dJ3_checkIndex_8e157_17 ?_
  exact (by first | with_reducible rfl | (first | with_reducible rfl | (simp only [sa_ap, si_ap, si_sa, sa_sa, sa_3, sa_4, sa_5, sa_6, sa_7, sa_8]; done) | (simp [sa_ap, si_ap, si_sa, sa_sa, sa_3, sa_4, sa_5, sa_6, sa_7, sa_8]; done)))

set_option maxHeartbeats 400000 in
/-- AbstractStringBuilder.isLatin1 -/
theorem c_J5_isLatin1_aae02 (l : Launch) (D : va_G) (cy : Nat → ClassId) (A : Nat → Prop) (sad : Nat → Nat) (ws : va_W) (p0 p1 a b n cap : Nat) (f : Nat → Int32) (hp : okP ws p0 p1) (hcap : cap < 2 ^ 28) (hn : n ≤ cap) : Met l yJ5_isLatin1_aae02 (wsA yJ5_isLatin1_aae02 cJ5_isLatin1_aae02 1 (some .boolean)) ({ frames := 0, cells := 0, slots := 0, locals := 0 }) (PcH D cy A sad (WTd D cy A ws p0 p1 a b n cap f) [.ref a]) (QiP A (WTd D cy A ws p0 p1 a b n cap f) (fun r => r = 1)) 0 0 A := by
  refine met_ofP (fun _ => 0) [(0, .ref a)] (by decide +kernel) (Nat.le_of_ble_eq_true rfl) rfl ?_
  intro G C hl hR hL hD hcy hA had hsa hr hQ
  subst hD hcy hA hsa hl
  refine g_compact C tw284 dJ5_isLatin1_aae02_0 ?_
  refine g_if_eq C dJ5_isLatin1_aae02_3 (tgt := 17) (by decide) (fun c_3 => absurd c_3 (by decide)) (fun c_3 => ?_)
  refine g_aload_n C dJ5_isLatin1_aae02_6 0 rfl ?_
  refine gT_coder C hp tw294 dJ5_isLatin1_aae02_7 ?_
  refine g_if_ne C dJ5_isLatin1_aae02_10 (tgt := 17) (by decide) (fun c_10 => absurd c_10 (by decide)) (fun c_10 => ?_)
  refine g_iconst C dJ5_isLatin1_aae02_13 (v := 1) (by decide) ?_
  refine g_goto C dJ5_isLatin1_aae02_14 (tgt := 18) (by decide) ?_
  refine g_zretP C hr (by decide) hQ (by decide) (by decide) dJ5_isLatin1_aae02_18 ?_
  exact (by first | with_reducible rfl | (first | with_reducible rfl | (simp only [sa_ap, si_ap, si_sa, sa_sa, sa_3, sa_4, sa_5, sa_6, sa_7, sa_8]; done) | (simp [sa_ap, si_ap, si_sa, sa_sa, sa_3, sa_4, sa_5, sa_6, sa_7, sa_8]; done)))

set_option maxHeartbeats 400000 in
/-- AbstractStringBuilder.length -/
theorem c_J5_length_8abf5 (l : Launch) (D : va_G) (cy : Nat → ClassId) (A : Nat → Prop) (sad : Nat → Nat) (ws : va_W) (p0 p1 a b n cap : Nat) (f : Nat → Int32) (hp : okP ws p0 p1) (hcap : cap < 2 ^ 28) (hn : n ≤ cap) : Met l yJ5_length_8abf5 (wsA yJ5_length_8abf5 cJ5_length_8abf5 1 (some .int)) ({ frames := 0, cells := 0, slots := 0, locals := 0 }) (PcH D cy A sad (WTd D cy A ws p0 p1 a b n cap f) [.ref a]) (QiP A (WTd D cy A ws p0 p1 a b n cap f) (fun r => r = nI n)) 0 0 A := by
  refine met_ofP (fun _ => 0) [(0, .ref a)] (by decide +kernel) (Nat.le_of_ble_eq_true rfl) rfl ?_
  intro G C hl hR hL hD hcy hA had hsa hr hQ
  subst hD hcy hA hsa hl
  refine g_aload_n C dJ5_length_8abf5_0 0 rfl ?_
  refine gT_count C hp tw295 dJ5_length_8abf5_1 ?_
  refine g_iretP C hr hQ (by decide) (by decide) dJ5_length_8abf5_4 ?_
  exact (by first | with_reducible rfl | (first | with_reducible rfl | (simp only [sa_ap, si_ap, si_sa, sa_sa, sa_3, sa_4, sa_5, sa_6, sa_7, sa_8]; done) | (simp [sa_ap, si_ap, si_sa, sa_sa, sa_3, sa_4, sa_5, sa_6, sa_7, sa_8]; done)))

set_option maxHeartbeats 400000 in
/-- StringBuilder.length -/
theorem c_J4_length_8abf5 (l : Launch) (D : va_G) (cy : Nat → ClassId) (A : Nat → Prop) (sad : Nat → Nat) (ws : va_W) (p0 p1 a b n cap : Nat) (f : Nat → Int32) (hp : okP ws p0 p1) (hcap : cap < 2 ^ 28) (hn : n ≤ cap) : Met l yJ4_length_8abf5 (wsA yJ4_length_8abf5 cJ4_length_8abf5 1 (some .int)) ({ frames := 1, cells := 0, slots := 0, locals := 20 }) (PcH D cy A sad (WTd D cy A ws p0 p1 a b n cap f) [.ref a]) (QiP A (WTd D cy A ws p0 p1 a b n cap f) (fun r => r = nI n)) 0 0 A := by
  refine met_ofP (fun _ => 0) [(0, .ref a)] (by decide +kernel) (Nat.le_of_ble_eq_true rfl) rfl ?_
  intro G C hl hR hL hD hcy hA had hsa hr hQ
  subst hD hcy hA hsa hl
  refine g_aload_n C dJ4_length_8abf5_0 0 rfl ?_
  refine g_callSUiP C (c_J5_length_8abf5 _ _ _ _ _ _ _ _ _ _ _ _ _ hp hcap hn) (g_cwSU C (mc := 0) (ms := 0) tw527 tw1757 tw304 tw528 tw12 tw529 ⟨by decide +kernel, rfl⟩ ⟨rfl, rfl⟩ (by rw [hR]; decide)) (rvT C hp) rfl (Nat.le_of_ble_eq_true rfl) dJ4_length_8abf5_1 (by rw [hR]; decide) (fun r_1 h_2 => ?_)
  refine g_iretP C hr hQ (by decide) (by decide) dJ4_length_8abf5_4 ?_
  exact h_2
