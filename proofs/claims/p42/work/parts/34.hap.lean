/-! the law: what happens ahead of a second -/

set_option maxHeartbeats 1000000 in
set_option maxRecDepth 100000 in
theorem hp_0 {G : MC} (C : Cx G cL_happens yL_happens.cls) (hst : (gl G).stackTraces = false) (hR : gR G = { frames := 15, cells := 11, slots := 32006, locals := 413 }) (hL : gL G = 17) (hr : (gme G).sig.returnType = some .boolean) {e v z5 : Nat} {X M : XF} {K : KF} (he : e + 1 ≤ v + 2) (I : IV (gsa G) e v z5 X M K) (h45 : ¬ X 118 0 = 45) (i a : Nat) (hi : i < 2 ^ 18) (ha : a < 9)  (hQ : gQ G = MQ (gbe G) (QiW (gD G) (gcy G) (gA G) (gad G) (fun r X1 M1 K1 => r = 1 ∧ IV (gsa G) (e + 1) v z5 X1 M1 K1 ∧ ¬ X1 118 0 = 45)) (gas G) (gs G) 11 32006 (gA G)) : GH G (WX G X M K) [(0, .ref (gad G 42)), (1, .ref (gsa G 900)), (2, .int (nI i)), (3, .int (nI a))] 0 0 72 [] := by
  have hrc : (gR G).cells = 11 := by rw [hR]
  have hrs : (gR G).slots = 32006 := by rw [hR]
  have b1 := pn_lt (gsa G) (i + 2) (m := 900) (by decide)
  have b2 := pn_lt (gsa G) (i + 3) (m := 9) (by decide)
  refine g_aload_n C dL_happens_72 0 rfl ?_
  refine gf_L_o C tw363 dL_happens_73 ?_
  refine g_bipush C dL_happens_76 (v := 6) (by decide) ?_
  refine g_iload_n C dL_happens_78 3 rfl ?_
  refine g_aload_n C dL_happens_79 1 rfl ?_
  refine g_iload_n C dL_happens_80 2 rfl ?_
  refine g_iconst C dL_happens_81 (v := 2) (by decide) ?_
  refine g_iadd C dL_happens_82 ?_
  refine g_topi (by exact nI_add i 2) ?_
  refine g_sipush C dL_happens_83 (v := 900) (by decide) ?_
  refine g_callSiW C dL_happens_86 (c_L_pick _ _ _ _ _ _ _ _ _ (i + 2) (by omega) 900 (by decide) (by decide)) tw399 tw400 tw0 tw401 rfl ⟨by decide +kernel, by decide +kernel, rfl⟩ ⟨rfl, rfl⟩ (by rw [hR]; exact ⟨Nat.le_of_ble_eq_true rfl, Nat.le_of_ble_eq_true rfl⟩) (Nat.le_of_ble_eq_true rfl) (by omega) (fun r_1 X1 M1 K1 h_2 => ?_)
  obtain ⟨rfl, hX1, hM1, hK1⟩ := h_2
  subst X1 M1 K1
  refine g_bipush C dL_happens_89 (v := 20) (by decide) ?_
  refine g_isub C dL_happens_91 ?_
  refine g_callSiW C dL_happens_92 (c_ask_6 _ _ _ _ _ _ _ _ _ a ha (nI (pn (gsa G) (i + 2) 900) - 20) (sense_ok ha b1)) tw1112 tw1113 tw0 tw1114 rfl ⟨by decide +kernel, by decide +kernel, rfl⟩ ⟨rfl, rfl⟩ (by rw [hR]; exact ⟨Nat.le_of_ble_eq_true rfl, Nat.le_of_ble_eq_true rfl⟩) (Nat.le_of_ble_eq_true rfl) (by omega) (fun r_3 X1 M1 K1 h_4 => ?_)
  obtain ⟨er_3, hX1, hM1, hK1⟩ := h_4
  subst X1 M1 K1
  try simp only [sa_ap, si_ap, reduceIte, Nat.reduceEqDiff] at er_3
  refine g_pop C dL_happens_95 rfl ?_
  refine g_aload_n C dL_happens_96 0 rfl ?_
  refine gf_L_o C tw363 dL_happens_97 ?_
  refine g_bipush C dL_happens_100 (v := 7) (by decide) ?_
  refine g_aload_n C dL_happens_102 1 rfl ?_
  refine g_iload_n C dL_happens_103 2 rfl ?_
  refine g_iconst C dL_happens_104 (v := 3) (by decide) ?_
  refine g_iadd C dL_happens_105 ?_
  refine g_topi (by exact nI_add i 3) ?_
  refine g_bipush C dL_happens_106 (v := 9) (by decide) ?_
  refine g_callSiW C dL_happens_108 (c_L_pick _ _ _ _ _ _ _ _ _ (i + 3) (by omega) 9 (by decide) (by decide)) tw399 tw400 tw0 tw401 rfl ⟨by decide +kernel, by decide +kernel, rfl⟩ ⟨rfl, rfl⟩ (by rw [hR]; exact ⟨Nat.le_of_ble_eq_true rfl, Nat.le_of_ble_eq_true rfl⟩) (Nat.le_of_ble_eq_true rfl) (by omega) (fun r_5 X1 M1 K1 h_6 => ?_)
  obtain ⟨rfl, hX1, hM1, hK1⟩ := h_6
  subst X1 M1 K1
  refine g_aload_n C dL_happens_111 1 rfl ?_
  refine g_iload_n C dL_happens_112 2 rfl ?_
  refine g_iconst C dL_happens_113 (v := 4) (by decide) ?_
  refine g_iadd C dL_happens_114 ?_
  refine g_topi (by exact nI_add i 4) ?_
  refine g_iconst C dL_happens_115 (v := 2) (by decide) ?_
  refine g_callSiW C dL_happens_116 (c_L_pick _ _ _ _ _ _ _ _ _ (i + 4) (by omega) 2 (by decide) (by decide)) tw399 tw400 tw0 tw401 rfl ⟨by decide +kernel, by decide +kernel, rfl⟩ ⟨rfl, rfl⟩ (by rw [hR]; exact ⟨Nat.le_of_ble_eq_true rfl, Nat.le_of_ble_eq_true rfl⟩) (Nat.le_of_ble_eq_true rfl) (by omega) (fun r_7 X1 M1 K1 h_8 => ?_)
  obtain ⟨er_7, hX1, hM1, hK1⟩ := h_8
  subst X1 M1 K1
  try simp only [sa_ap, si_ap, reduceIte, Nat.reduceEqDiff] at er_7
  rcases litp (gsa G) (i + 4) with hl | hl
  · refine g_topi (y := 0) (by rw [er_7, hl]) ?_
    refine g_callSiW C dL_happens_119 (c_ask_7_0 _ _ _ _ _ _ _ _ _ (nI (pn (gsa G) (i + 3) 9)) hst) tw1112 tw1113 tw0 tw1114 rfl ⟨by decide +kernel, by decide +kernel, rfl⟩ ⟨rfl, rfl⟩ (by rw [hR]; exact ⟨Nat.le_of_ble_eq_true rfl, Nat.le_of_ble_eq_true rfl⟩) (Nat.le_of_ble_eq_true rfl) (by omega) (fun r_9 X1 M1 K1 h_10 => ?_)
    rcases h_10 with ⟨c_ok119, er_9, hX1, hM1, hK1⟩ | ⟨E9, ⟨c_no119, hE9, hX1, hM1, hK1⟩, er_9⟩
    · subst X1 M1 K1
      refine g_sipush C dL_happens_122 (v := (-20002)) (by decide) ?_
      refine g_icmp_eq C dL_happens_125 (tgt := 132) (by decide) (fun c_125 => absurd c_125 (fun q => sn_nneg _ _ ((by assumption : _ = sn_cnt _ _ _).symm.trans q))) (fun c_125 => ?_)
      refine g_iconst C dL_happens_128 (v := 1) (by decide) ?_
      refine g_goto C dL_happens_129 (tgt := 133) (by decide) ?_
      refine g_zretW C hr (by decide) hQ (by omega) (by omega) dL_happens_133 ?_
      first | exact ⟨rfl, (I.irr (Or.inl rfl) _).up he, h45⟩ | exact ⟨rfl, ((I.irr (Or.inl rfl) _).irr (Or.inr (Or.inl rfl)) _).up he, h45⟩
    · subst X1 M1 K1
      subst hE9
      refine g_topi (y := (-20004)) (er_9.trans (by rw [inh_code b2 c_no119]; decide)) ?_
      refine g_sipush C dL_happens_122 (v := (-20002)) (by decide) ?_
      refine g_icmp_eq C dL_happens_125 (tgt := 132) (by decide) (fun c_125 => absurd c_125 (by decide)) (fun c_125 => ?_)
      refine g_iconst C dL_happens_128 (v := 1) (by decide) ?_
      refine g_goto C dL_happens_129 (tgt := 133) (by decide) ?_
      refine g_zretW C hr (by decide) hQ (by omega) (by omega) dL_happens_133 ?_
      first | exact ⟨rfl, (I.irr (Or.inl rfl) _).up he, h45⟩ | exact ⟨rfl, ((I.irr (Or.inl rfl) _).irr (Or.inr (Or.inl rfl)) _).up he, h45⟩
  · refine g_topi (y := 1) (by rw [er_7, hl]) ?_
    refine g_callSiW C dL_happens_119 (c_ask_7_1 _ _ _ _ _ _ _ _ _ (nI (pn (gsa G) (i + 3) 9)) hst) tw1112 tw1113 tw0 tw1114 rfl ⟨by decide +kernel, by decide +kernel, rfl⟩ ⟨rfl, rfl⟩ (by rw [hR]; exact ⟨Nat.le_of_ble_eq_true rfl, Nat.le_of_ble_eq_true rfl⟩) (Nat.le_of_ble_eq_true rfl) (by omega) (fun r_11 X1 M1 K1 h_12 => ?_)
    rcases h_12 with ⟨c_ok119, er_11, hX1, hM1, hK1⟩ | ⟨E9, ⟨c_no119, hE9, hX1, hM1, hK1⟩, er_11⟩
    · subst X1 M1 K1
      refine g_sipush C dL_happens_122 (v := (-20002)) (by decide) ?_
      refine g_icmp_eq C dL_happens_125 (tgt := 132) (by decide) (fun c_125 => absurd c_125 (fun q => sn_nneg _ _ ((by assumption : _ = sn_cnt _ _ _).symm.trans q))) (fun c_125 => ?_)
      refine g_iconst C dL_happens_128 (v := 1) (by decide) ?_
      refine g_goto C dL_happens_129 (tgt := 133) (by decide) ?_
      refine g_zretW C hr (by decide) hQ (by omega) (by omega) dL_happens_133 ?_
      first | exact ⟨rfl, (I.irr (Or.inl rfl) _).up he, h45⟩ | exact ⟨rfl, ((I.irr (Or.inl rfl) _).irr (Or.inr (Or.inl rfl)) _).up he, h45⟩
    · subst X1 M1 K1
      subst hE9
      refine g_topi (y := (-20004)) (er_11.trans (by rw [inh_code b2 c_no119]; decide)) ?_
      refine g_sipush C dL_happens_122 (v := (-20002)) (by decide) ?_
      refine g_icmp_eq C dL_happens_125 (tgt := 132) (by decide) (fun c_125 => absurd c_125 (by decide)) (fun c_125 => ?_)
      refine g_iconst C dL_happens_128 (v := 1) (by decide) ?_
      refine g_goto C dL_happens_129 (tgt := 133) (by decide) ?_
      refine g_zretW C hr (by decide) hQ (by omega) (by omega) dL_happens_133 ?_
      first | exact ⟨rfl, (I.irr (Or.inl rfl) _).up he, h45⟩ | exact ⟨rfl, ((I.irr (Or.inl rfl) _).irr (Or.inr (Or.inl rfl)) _).up he, h45⟩

set_option maxHeartbeats 1000000 in
set_option maxRecDepth 100000 in
theorem hp_1 {G : MC} (C : Cx G cL_happens yL_happens.cls) (hst : (gl G).stackTraces = false) (hR : gR G = { frames := 15, cells := 11, slots := 32006, locals := 413 }) (hL : gL G = 17) (hr : (gme G).sig.returnType = some .boolean) {e v z5 : Nat} {X M : XF} {K : KF} (he : e + 1 ≤ v + 2) (I : IV (gsa G) e v z5 X M K) (h45 : ¬ X 118 0 = 45) (i a : Nat) (hi : i < 2 ^ 18) (ha : a < 9)  (hQ : gQ G = MQ (gbe G) (QiW (gD G) (gcy G) (gA G) (gad G) (fun r X1 M1 K1 => r = 1 ∧ IV (gsa G) (e + 1) v z5 X1 M1 K1 ∧ ¬ X1 118 0 = 45)) (gas G) (gs G) 11 32006 (gA G)) : GH G (WX G X M K) [(0, .ref (gad G 42)), (1, .ref (gsa G 900)), (2, .int (nI i)), (3, .int (nI a))] 0 0 134 [] := by
  have hrc : (gR G).cells = 11 := by rw [hR]
  have hrs : (gR G).slots = 32006 := by rw [hR]
  have b1 := pn_lt (gsa G) (i + 2) (m := 201) (by decide)
  have b2 := pn_lt (gsa G) (i + 3) (m := 100) (by decide)
  obtain ⟨w0, hw0, ew0⟩ := I.wx.1
  obtain ⟨m0, hm0, em0⟩ := I.wx.2.1
  have hv := I.lv
  have hle := I.le
  refine g_aload_n C dL_happens_134 0 rfl ?_
  refine gf_L_o C tw363 dL_happens_135 ?_
  refine g_bipush C dL_happens_138 (v := 8) (by decide) ?_
  refine g_aload_n C dL_happens_140 1 rfl ?_
  refine g_iload_n C dL_happens_141 2 rfl ?_
  refine g_iconst C dL_happens_142 (v := 2) (by decide) ?_
  refine g_iadd C dL_happens_143 ?_
  refine g_topi (by exact nI_add i 2) ?_
  refine g_sipush C dL_happens_144 (v := 201) (by decide) ?_
  refine g_callSiW C dL_happens_147 (c_L_pick _ _ _ _ _ _ _ _ _ (i + 2) (by omega) 201 (by decide) (by decide)) tw399 tw400 tw0 tw401 rfl ⟨by decide +kernel, by decide +kernel, rfl⟩ ⟨rfl, rfl⟩ (by rw [hR]; exact ⟨Nat.le_of_ble_eq_true rfl, Nat.le_of_ble_eq_true rfl⟩) (Nat.le_of_ble_eq_true rfl) (by omega) (fun r_1 X1 M1 K1 h_2 => ?_)
  obtain ⟨rfl, hX1, hM1, hK1⟩ := h_2
  subst X1 M1 K1
  refine g_iconst C dL_happens_150 (v := 0) (by decide) ?_
  refine g_callSiW C dL_happens_151 (c_ask_8 _ _ _ _ _ _ _ _ _ (nI (pn (gsa G) (i + 2) 201)) (w_ok (lo := 0) (hi := 200) (Nat.zero_le _) (by omega) (by decide)) _) tw1112 tw1113 tw0 tw1114 rfl ⟨by decide +kernel, by decide +kernel, rfl⟩ ⟨rfl, rfl⟩ (by rw [hR]; exact ⟨Nat.le_of_ble_eq_true rfl, Nat.le_of_ble_eq_true rfl⟩) (Nat.le_of_ble_eq_true rfl) (by omega) (fun r_3 X1 M1 K1 h_4 => ?_)
  obtain ⟨rfl, hX1, hM1, hK1⟩ := h_4
  subst X1 M1 K1
  refine g_if_lt C dL_happens_154 (tgt := 183) (by decide) (fun c_154 => absurd c_154 (by rw [ew0]; exact nI_pos (by omega))) (fun c_154 => ?_)
  refine g_aload_n C dL_happens_157 0 rfl ?_
  refine gf_L_o C tw363 dL_happens_158 ?_
  refine g_bipush C dL_happens_161 (v := 9) (by decide) ?_
  refine g_aload_n C dL_happens_163 1 rfl ?_
  refine g_iload_n C dL_happens_164 2 rfl ?_
  refine g_iconst C dL_happens_165 (v := 3) (by decide) ?_
  refine g_iadd C dL_happens_166 ?_
  refine g_topi (by exact nI_add i 3) ?_
  refine g_bipush C dL_happens_167 (v := 100) (by decide) ?_
  refine g_callSiW C dL_happens_169 (c_L_pick _ _ _ _ _ _ _ _ _ (i + 3) (by omega) 100 (by decide) (by decide)) tw399 tw400 tw0 tw401 rfl ⟨by decide +kernel, by decide +kernel, rfl⟩ ⟨rfl, rfl⟩ (by rw [hR]; exact ⟨Nat.le_of_ble_eq_true rfl, Nat.le_of_ble_eq_true rfl⟩) (Nat.le_of_ble_eq_true rfl) (by omega) (fun r_5 X1 M1 K1 h_6 => ?_)
  obtain ⟨rfl, hX1, hM1, hK1⟩ := h_6
  subst X1 M1 K1
  refine g_iconst C dL_happens_172 (v := 0) (by decide) ?_
  refine g_callSiW C dL_happens_173 (c_ask_9 _ _ _ _ _ _ _ _ _ (nI (pn (gsa G) (i + 3) 100)) v (by exact I.x1) (by omega) (w_ok (lo := 0) (hi := 99) (Nat.zero_le _) (by omega) (by decide)) _) tw1112 tw1113 tw0 tw1114 rfl ⟨by decide +kernel, by decide +kernel, rfl⟩ ⟨rfl, rfl⟩ (by rw [hR]; exact ⟨Nat.le_of_ble_eq_true rfl, Nat.le_of_ble_eq_true rfl⟩) (Nat.le_of_ble_eq_true rfl) (by omega) (fun r_7 X1 M1 K1 h_8 => ?_)
  obtain ⟨er_7, hX1, hM1, hK1⟩ := h_8
  subst X1 M1 K1
  try simp only [sa_ap, si_ap, reduceIte, Nat.reduceEqDiff] at er_7
  have hnn : ¬ r_7 < 0 := by rw [er_7]; show ¬ (if 20 < nI (pn (gsa G) (i + 3) 100) then X 104 0 else X 104 0 + 1) < 0; rw [em0, nI_1]; split <;> exact nI_pos (by omega)
  refine g_if_lt C dL_happens_176 (tgt := 183) (by decide) (fun c_176 => absurd c_176 hnn) (fun c_176 => ?_)
  refine g_iconst C dL_happens_179 (v := 1) (by decide) ?_
  refine g_goto C dL_happens_180 (tgt := 184) (by decide) ?_
  refine g_zretW C hr (by decide) hQ (by omega) (by omega) dL_happens_184 ?_
  exact ⟨rfl, (I.wind (w := pn (gsa G) (i + 2) 201) (by omega)).strike he _, (by split <;> exact h45)⟩

set_option maxHeartbeats 1000000 in
set_option maxRecDepth 100000 in
theorem hp_2 {G : MC} (C : Cx G cL_happens yL_happens.cls) (hst : (gl G).stackTraces = false) (hR : gR G = { frames := 15, cells := 11, slots := 32006, locals := 413 }) (hL : gL G = 17) (hr : (gme G).sig.returnType = some .boolean) {e v z5 : Nat} {X M : XF} {K : KF} (he : e + 1 ≤ v + 2) (I : IV (gsa G) e v z5 X M K) (h45 : ¬ X 118 0 = 45) (i a : Nat) (hi : i < 2 ^ 18) (ha : a < 9)  (hQ : gQ G = MQ (gbe G) (QiW (gD G) (gcy G) (gA G) (gad G) (fun r X1 M1 K1 => r = 1 ∧ IV (gsa G) (e + 1) v z5 X1 M1 K1 ∧ ¬ X1 118 0 = 45)) (gas G) (gs G) 11 32006 (gA G)) : GH G (WX G X M K) [(0, .ref (gad G 42)), (1, .ref (gsa G 900)), (2, .int (nI i)), (3, .int (nI a))] 0 0 185 [] := by
  have hrc : (gR G).cells = 11 := by rw [hR]
  have hrs : (gR G).slots = 32006 := by rw [hR]
  have b1 := pn_lt (gsa G) (i + 2) (m := 8) (by decide)
  have b2 := pn_lt (gsa G) (i + 3) (m := 12) (by decide)
  have b3 := pn_lt (gsa G) (i + 4) (m := 20) (by decide)
  refine g_aload_n C dL_happens_185 0 rfl ?_
  refine gf_L_o C tw363 dL_happens_186 ?_
  refine g_bipush C dL_happens_189 (v := 10) (by decide) ?_
  refine g_aload_n C dL_happens_191 1 rfl ?_
  refine g_iload_n C dL_happens_192 2 rfl ?_
  refine g_iconst C dL_happens_193 (v := 2) (by decide) ?_
  refine g_iadd C dL_happens_194 ?_
  refine g_topi (by exact nI_add i 2) ?_
  refine g_bipush C dL_happens_195 (v := 8) (by decide) ?_
  refine g_callSiW C dL_happens_197 (c_L_pick _ _ _ _ _ _ _ _ _ (i + 2) (by omega) 8 (by decide) (by decide)) tw399 tw400 tw0 tw401 rfl ⟨by decide +kernel, by decide +kernel, rfl⟩ ⟨rfl, rfl⟩ (by rw [hR]; exact ⟨Nat.le_of_ble_eq_true rfl, Nat.le_of_ble_eq_true rfl⟩) (Nat.le_of_ble_eq_true rfl) (by omega) (fun r_1 X1 M1 K1 h_2 => ?_)
  obtain ⟨rfl, hX1, hM1, hK1⟩ := h_2
  subst X1 M1 K1
  refine g_aload_n C dL_happens_200 1 rfl ?_
  refine g_iload_n C dL_happens_201 2 rfl ?_
  refine g_iconst C dL_happens_202 (v := 3) (by decide) ?_
  refine g_iadd C dL_happens_203 ?_
  refine g_topi (by exact nI_add i 3) ?_
  refine g_bipush C dL_happens_204 (v := 12) (by decide) ?_
  refine g_callSiW C dL_happens_206 (c_L_pick _ _ _ _ _ _ _ _ _ (i + 3) (by omega) 12 (by decide) (by decide)) tw399 tw400 tw0 tw401 rfl ⟨by decide +kernel, by decide +kernel, rfl⟩ ⟨rfl, rfl⟩ (by rw [hR]; exact ⟨Nat.le_of_ble_eq_true rfl, Nat.le_of_ble_eq_true rfl⟩) (Nat.le_of_ble_eq_true rfl) (by omega) (fun r_3 X1 M1 K1 h_4 => ?_)
  obtain ⟨rfl, hX1, hM1, hK1⟩ := h_4
  subst X1 M1 K1
  refine g_aload_n C dL_happens_209 1 rfl ?_
  refine g_iload_n C dL_happens_210 2 rfl ?_
  refine g_iconst C dL_happens_211 (v := 4) (by decide) ?_
  refine g_iadd C dL_happens_212 ?_
  refine g_topi (by exact nI_add i 4) ?_
  refine g_bipush C dL_happens_213 (v := 20) (by decide) ?_
  refine g_callSiW C dL_happens_215 (c_L_pick _ _ _ _ _ _ _ _ _ (i + 4) (by omega) 20 (by decide) (by decide)) tw399 tw400 tw0 tw401 rfl ⟨by decide +kernel, by decide +kernel, rfl⟩ ⟨rfl, rfl⟩ (by rw [hR]; exact ⟨Nat.le_of_ble_eq_true rfl, Nat.le_of_ble_eq_true rfl⟩) (Nat.le_of_ble_eq_true rfl) (by omega) (fun r_5 X1 M1 K1 h_6 => ?_)
  obtain ⟨rfl, hX1, hM1, hK1⟩ := h_6
  subst X1 M1 K1
  refine g_iconst C dL_happens_218 (v := 0) (by decide) ?_
  refine g_iconst C dL_happens_219 (v := 0) (by decide) ?_
  refine g_callH C dL_happens_220 (c_deedf_10 _ _ _ _ _ _ _ _ _ (pn (gsa G) (i + 2) 8) b1 (nI (pn (gsa G) (i + 3) 12)) (nI (pn (gsa G) (i + 4) 20)) (boat_ok b1 b2 b3) 0 0) tw407 tw408 tw0 tw409 rfl ⟨by decide +kernel, by decide +kernel, rfl⟩ ⟨rfl, rfl⟩ (by rw [hR]; exact ⟨Nat.le_of_ble_eq_true rfl, Nat.le_of_ble_eq_true rfl⟩) (Nat.le_of_ble_eq_true rfl) (by omega) (fun r_7 X1 M1 K1 h_8 => ?_)
  obtain ⟨rfl, hX1, hM1, hK1⟩ := h_8
  subst X1 M1 K1
  refine g_aload_n C dL_happens_223 0 rfl ?_
  refine gf_L_o C tw363 dL_happens_224 ?_
  refine g_callViW C dL_happens_227 (c_X10_risk _ _ _ _ _ _ _ _ _ ) tw1149 tw1150 tw1151 tw1 tw1152 (rv_X10 C) rfl ⟨by decide +kernel, by decide +kernel, rfl⟩ ⟨rfl, rfl⟩ (by rw [hR]; exact ⟨Nat.le_of_ble_eq_true rfl, Nat.le_of_ble_eq_true rfl⟩) (Nat.le_of_ble_eq_true rfl) (by omega) (fun r_9 X1 M1 K1 h_10 => ?_)
  obtain ⟨rfl, hX1, hM1, hK1⟩ := h_10
  subst X1 M1 K1
  refine g_icmp_ne C dL_happens_230 (tgt := 237) (by decide) (fun c_230 => absurd c_230 (not_not_intro rfl)) (fun c_230 => ?_)
  refine g_iconst C dL_happens_233 (v := 1) (by decide) ?_
  refine g_goto C dL_happens_234 (tgt := 238) (by decide) ?_
  refine g_zretW C hr (by decide) hQ (by omega) (by omega) dL_happens_238 ?_
  exact ⟨rfl, (I.irr (Or.inr (Or.inr (Or.inl rfl))) _).up he, h45⟩

set_option maxHeartbeats 1000000 in
set_option maxRecDepth 100000 in
theorem hp_3 {G : MC} (C : Cx G cL_happens yL_happens.cls) (hst : (gl G).stackTraces = false) (hR : gR G = { frames := 15, cells := 11, slots := 32006, locals := 413 }) (hL : gL G = 17) (hr : (gme G).sig.returnType = some .boolean) {e v z5 : Nat} {X M : XF} {K : KF} (he : e + 1 ≤ v + 2) (I : IV (gsa G) e v z5 X M K) (h45 : ¬ X 118 0 = 45) (i a : Nat) (hi : i < 2 ^ 18) (ha : a < 9)  (hQ : gQ G = MQ (gbe G) (QiW (gD G) (gcy G) (gA G) (gad G) (fun r X1 M1 K1 => r = 1 ∧ IV (gsa G) (e + 1) v z5 X1 M1 K1 ∧ ¬ X1 118 0 = 45)) (gas G) (gs G) 11 32006 (gA G)) : GH G (WX G X M K) [(0, .ref (gad G 42)), (1, .ref (gsa G 900)), (2, .int (nI i)), (3, .int (nI a))] 0 0 239 [] := by
  have hrc : (gR G).cells = 11 := by rw [hR]
  have hrs : (gR G).slots = 32006 := by rw [hR]
  have b1 := pn_lt (gsa G) (i + 2) (m := 6) (by decide)
  have b2 := pn_lt (gsa G) (i + 3) (m := 12) (by decide)
  have b3 := pn_lt (gsa G) (60 + pn (gsa G) (i + 2) 6) (m := 6) (by decide)
  have hmay := (I.rl.2.2.2 _ b1).2.2.2.2.2.1
  refine g_aload_n C dL_happens_239 1 rfl ?_
  refine g_iload_n C dL_happens_240 2 rfl ?_
  refine g_iconst C dL_happens_241 (v := 2) (by decide) ?_
  refine g_iadd C dL_happens_242 ?_
  refine g_topi (by exact nI_add i 2) ?_
  refine g_bipush C dL_happens_243 (v := 6) (by decide) ?_
  refine g_callSiW C dL_happens_245 (c_L_pick _ _ _ _ _ _ _ _ _ (i + 2) (by omega) 6 (by decide) (by decide)) tw399 tw400 tw0 tw401 rfl ⟨by decide +kernel, by decide +kernel, rfl⟩ ⟨rfl, rfl⟩ (by rw [hR]; exact ⟨Nat.le_of_ble_eq_true rfl, Nat.le_of_ble_eq_true rfl⟩) (Nat.le_of_ble_eq_true rfl) (by omega) (fun r_1 X1 M1 K1 h_2 => ?_)
  obtain ⟨rfl, hX1, hM1, hK1⟩ := h_2
  subst X1 M1 K1
  refine g_istore C dL_happens_248 (L' := [(4, .int (nI (pn (gsa G) (i + 2) 6))), (0, .ref (gad G 42)), (1, .ref (gsa G 900)), (2, .int (nI i)), (3, .int (nI a))]) rfl (by rw [hL]; decide) ?_
  refine g_aload_n C dL_happens_250 2 rfl ?_
  refine g_iload_n C dL_happens_251 3 rfl ?_
  refine g_iconst C dL_happens_252 (v := 3) (by decide) ?_
  refine g_iadd C dL_happens_253 ?_
  refine g_topi (by exact nI_add i 3) ?_
  refine g_bipush C dL_happens_254 (v := 12) (by decide) ?_
  refine g_callSiW C dL_happens_256 (c_L_pick _ _ _ _ _ _ _ _ _ (i + 3) (by omega) 12 (by decide) (by decide)) tw399 tw400 tw0 tw401 rfl ⟨by decide +kernel, by decide +kernel, rfl⟩ ⟨rfl, rfl⟩ (by rw [hR]; exact ⟨Nat.le_of_ble_eq_true rfl, Nat.le_of_ble_eq_true rfl⟩) (Nat.le_of_ble_eq_true rfl) (by omega) (fun r_3 X1 M1 K1 h_4 => ?_)
  obtain ⟨rfl, hX1, hM1, hK1⟩ := h_4
  subst X1 M1 K1
  refine g_ineg C dL_happens_259 ?_
  refine g_topi rfl ?_
  refine g_istore C dL_happens_260 (L' := [(5, .int (-(nI (pn (gsa G) (i + 3) 12)))), (4, .int (nI (pn (gsa G) (i + 2) 6))), (0, .ref (gad G 42)), (1, .ref (gsa G 900)), (2, .int (nI i)), (3, .int (nI a))]) rfl (by rw [hL]; decide) ?_
  refine g_aload_n C dL_happens_262 2 rfl ?_
  refine gf_L_o C tw363 dL_happens_263 ?_
  refine g_callViW C dL_happens_266 (c_X10_state _ _ _ _ _ _ _ _ _ I.ch118) tw1141 tw1142 tw1143 tw1 tw1144 (rv_X10 C) rfl ⟨by decide +kernel, by decide +kernel, rfl⟩ ⟨rfl, rfl⟩ (by rw [hR]; exact ⟨Nat.le_of_ble_eq_true rfl, Nat.le_of_ble_eq_true rfl⟩) (Nat.le_of_ble_eq_true rfl) (by omega) (fun r_5 X1 M1 K1 h_6 => ?_)
  obtain ⟨rfl, hX1, hM1, hK1⟩ := h_6
  subst X1 M1 K1
  refine g_bipush C dL_happens_269 (v := 45) (by decide) ?_
  refine g_icmp_eq C dL_happens_271 (tgt := 298) (by decide) (fun c_271 => absurd c_271 h45) (fun c_271 => ?_)
  refine g_aload_n C dL_happens_274 2 rfl ?_
  refine g_iload C dL_happens_275 1 rfl ?_
  refine g_aload_n C dL_happens_277 2 rfl ?_
  refine gf_L_o C tw363 dL_happens_278 ?_
  refine g_bipush C dL_happens_281 (v := 25) (by decide) ?_
  refine g_iconst C dL_happens_283 (v := 0) (by decide) ?_
  refine g_iconst C dL_happens_284 (v := 0) (by decide) ?_
  refine g_callSiW C dL_happens_285 (c_ask_25 _ _ _ _ _ _ _ _ _ (beg_ok h45) _ _) tw1112 tw1113 tw0 tw1114 rfl ⟨by decide +kernel, by decide +kernel, rfl⟩ ⟨rfl, rfl⟩ (by rw [hR]; exact ⟨Nat.le_of_ble_eq_true rfl, Nat.le_of_ble_eq_true rfl⟩) (Nat.le_of_ble_eq_true rfl) (by omega) (fun r_7 X1 M1 K1 h_8 => ?_)
  obtain ⟨rfl, hX1, hM1, hK1⟩ := h_8
  subst X1 M1 K1
  refine g_callViW C dL_happens_288 (c_L_isWaivedAt _ _ _ _ _ _ _ _ _ (pn (gsa G) (i + 2) 6) b1 _) tw1153 tw1155 tp18 tw0 tw1156 (rv_L C) rfl ⟨by decide +kernel, by decide +kernel, rfl⟩ ⟨rfl, rfl⟩ (by rw [hR]; exact ⟨Nat.le_of_ble_eq_true rfl, Nat.le_of_ble_eq_true rfl⟩) (Nat.le_of_ble_eq_true rfl) (by omega) (fun r_9 X1 M1 K1 h_10 => ?_)
  obtain ⟨er_9, hX1, hM1, hK1⟩ := h_10
  subst X1 M1 K1
  try simp only [sa_ap, si_ap, reduceIte, Nat.reduceEqDiff] at er_9
  have c_w := er_9
  refine g_if_eq C dL_happens_291 (tgt := 298) (by decide) (fun c_291 => ?_) (fun c_291 => ?_)
  · try simp only [sa_ap, si_ap, reduceIte, Nat.reduceEqDiff, up_us, lg_cmp_lt, lg_cmp_gt, lg_cmp_le, lg_cmp_ge] at c_291
    rw [c_w] at c_291
    refine g_iconst C dL_happens_298 (v := 0) (by decide) ?_
    refine g_istore C dL_happens_299 (L' := [(6, .int 0), (5, .int (-(nI (pn (gsa G) (i + 3) 12)))), (4, .int (nI (pn (gsa G) (i + 2) 6))), (0, .ref (gad G 42)), (1, .ref (gsa G 900)), (2, .int (nI i)), (3, .int (nI a))]) rfl (by rw [hL]; decide) ?_
    refine g_aload_n C dL_happens_301 3 rfl ?_
    refine gf_L_o C tw363 dL_happens_302 ?_
    refine g_bipush C dL_happens_305 (v := 13) (by decide) ?_
    refine g_iload C dL_happens_307 2 rfl ?_
    refine g_aload_n C dL_happens_309 4 rfl ?_
    refine g_bipush C dL_happens_310 (v := 60) (by decide) ?_
    refine g_iload C dL_happens_312 2 rfl ?_
    refine g_iadd C dL_happens_314 ?_
    refine g_topi (by exact nI_add 60 (pn (gsa G) (i + 2) 6)) ?_
    refine g_bipush C dL_happens_315 (v := 6) (by decide) ?_
    refine g_callSiW C dL_happens_317 (c_L_pick _ _ _ _ _ _ _ _ _ (60 + pn (gsa G) (i + 2) 6) (by omega) 6 (by decide) (by decide)) tw399 tw400 tw0 tw401 rfl ⟨by decide +kernel, by decide +kernel, rfl⟩ ⟨rfl, rfl⟩ (by rw [hR]; exact ⟨Nat.le_of_ble_eq_true rfl, Nat.le_of_ble_eq_true rfl⟩) (Nat.le_of_ble_eq_true rfl) (by omega) (fun r_11 X1 M1 K1 h_12 => ?_)
    obtain ⟨rfl, hX1, hM1, hK1⟩ := h_12
    subst X1 M1 K1
    refine g_iload C dL_happens_320 1 rfl ?_
    refine g_iconst C dL_happens_322 (v := 0) (by decide) ?_
    refine g_iconst C dL_happens_323 (v := 0) (by decide) ?_
    refine g_callH C dL_happens_324 (c_deedf_13 _ _ _ _ _ _ _ _ _ (pn (gsa G) (i + 2) 6) (by omega) (nI (pn (gsa G) (60 + pn (gsa G) (i + 2) 6) 6)) (-(nI (pn (gsa G) (i + 3) 12))) 6 I.x6 (by decide) (waive_ok b1 b3 b2 hmay) 0 0) tw407 tw408 tw0 tw409 rfl ⟨by decide +kernel, by decide +kernel, rfl⟩ ⟨rfl, rfl⟩ (by rw [hR]; exact ⟨Nat.le_of_ble_eq_true rfl, Nat.le_of_ble_eq_true rfl⟩) (Nat.le_of_ble_eq_true rfl) (by omega) (fun r_13 X1 M1 K1 h_14 => ?_)
    obtain ⟨rfl, hX1, hM1, hK1⟩ := h_14
    subst X1 M1 K1
    refine g_istore C dL_happens_327 (L' := [(7, .int (bz (cl_iw X (pn (gsa G) (i + 2) 6)))), (6, .int 0), (5, .int (-(nI (pn (gsa G) (i + 3) 12)))), (4, .int (nI (pn (gsa G) (i + 2) 6))), (0, .ref (gad G 42)), (1, .ref (gsa G 900)), (2, .int (nI i)), (3, .int (nI a))]) rfl (by rw [hL]; decide) ?_
    refine g_aload_n C dL_happens_329 4 rfl ?_
    refine gf_L_waivedTo C tw364 dL_happens_330 ?_
    refine g_iload C dL_happens_333 3 rfl ?_
    refine g_iload C dL_happens_335 2 rfl ?_
    refine as_43 C b1 dL_happens_337 ?_
    refine g_iload C dL_happens_338 0 rfl ?_
    refine g_iload C dL_happens_340 1 rfl ?_
    refine g_callSiW C dL_happens_342 (c_L_told_0 _ _ _ _ _ _ _ _ _ ) tw534 tw535 tw0 tw536 rfl ⟨by decide +kernel, by decide +kernel, rfl⟩ ⟨rfl, rfl⟩ (by rw [hR]; exact ⟨Nat.le_of_ble_eq_true rfl, Nat.le_of_ble_eq_true rfl⟩) (Nat.le_of_ble_eq_true rfl) (by omega) (fun r_15 X1 M1 K1 h_16 => ?_)
    obtain ⟨rfl, hX1, hM1, hK1⟩ := h_16
    subst X1 M1 K1
    refine g_icmp_ne C dL_happens_345 (tgt := 352) (by decide) (fun c_345 => absurd c_345 (not_not_intro (by rw [I.iw h45 b1]; first | (rw [c_291]; done) | (rw [bo1 (wv_l_bo _ _ _) c_291]; done) | (rw [c_291]; decide) | (rw [bo1 (wv_l_bo _ _ _) c_291]; decide)))) (fun c_345 => ?_)
    refine g_iconst C dL_happens_348 (v := 1) (by decide) ?_
    refine g_goto C dL_happens_349 (tgt := 353) (by decide) ?_
    refine g_zretW C hr (by decide) hQ (by omega) (by omega) dL_happens_353 ?_
    exact ⟨rfl, (I.waive b1 b2).up he, h45⟩
  · try simp only [sa_ap, si_ap, reduceIte, Nat.reduceEqDiff, up_us, lg_cmp_lt, lg_cmp_gt, lg_cmp_le, lg_cmp_ge] at c_291
    rw [c_w] at c_291
    refine g_iconst C dL_happens_294 (v := 1) (by decide) ?_
    refine g_goto C dL_happens_295 (tgt := 299) (by decide) ?_
    refine g_istore C dL_happens_299 (L' := [(6, .int 1), (5, .int (-(nI (pn (gsa G) (i + 3) 12)))), (4, .int (nI (pn (gsa G) (i + 2) 6))), (0, .ref (gad G 42)), (1, .ref (gsa G 900)), (2, .int (nI i)), (3, .int (nI a))]) rfl (by rw [hL]; decide) ?_
    refine g_aload_n C dL_happens_301 3 rfl ?_
    refine gf_L_o C tw363 dL_happens_302 ?_
    refine g_bipush C dL_happens_305 (v := 13) (by decide) ?_
    refine g_iload C dL_happens_307 2 rfl ?_
    refine g_aload_n C dL_happens_309 4 rfl ?_
    refine g_bipush C dL_happens_310 (v := 60) (by decide) ?_
    refine g_iload C dL_happens_312 2 rfl ?_
    refine g_iadd C dL_happens_314 ?_
    refine g_topi (by exact nI_add 60 (pn (gsa G) (i + 2) 6)) ?_
    refine g_bipush C dL_happens_315 (v := 6) (by decide) ?_
    refine g_callSiW C dL_happens_317 (c_L_pick _ _ _ _ _ _ _ _ _ (60 + pn (gsa G) (i + 2) 6) (by omega) 6 (by decide) (by decide)) tw399 tw400 tw0 tw401 rfl ⟨by decide +kernel, by decide +kernel, rfl⟩ ⟨rfl, rfl⟩ (by rw [hR]; exact ⟨Nat.le_of_ble_eq_true rfl, Nat.le_of_ble_eq_true rfl⟩) (Nat.le_of_ble_eq_true rfl) (by omega) (fun r_17 X1 M1 K1 h_18 => ?_)
    obtain ⟨rfl, hX1, hM1, hK1⟩ := h_18
    subst X1 M1 K1
    refine g_iload C dL_happens_320 1 rfl ?_
    refine g_iconst C dL_happens_322 (v := 0) (by decide) ?_
    refine g_iconst C dL_happens_323 (v := 0) (by decide) ?_
    refine g_callH C dL_happens_324 (c_deedf_13 _ _ _ _ _ _ _ _ _ (pn (gsa G) (i + 2) 6) (by omega) (nI (pn (gsa G) (60 + pn (gsa G) (i + 2) 6) 6)) (-(nI (pn (gsa G) (i + 3) 12))) 6 I.x6 (by decide) (waive_ok b1 b3 b2 hmay) 0 0) tw407 tw408 tw0 tw409 rfl ⟨by decide +kernel, by decide +kernel, rfl⟩ ⟨rfl, rfl⟩ (by rw [hR]; exact ⟨Nat.le_of_ble_eq_true rfl, Nat.le_of_ble_eq_true rfl⟩) (Nat.le_of_ble_eq_true rfl) (by omega) (fun r_19 X1 M1 K1 h_20 => ?_)
    obtain ⟨rfl, hX1, hM1, hK1⟩ := h_20
    subst X1 M1 K1
    refine g_istore C dL_happens_327 (L' := [(7, .int (bz (cl_iw X (pn (gsa G) (i + 2) 6)))), (6, .int 1), (5, .int (-(nI (pn (gsa G) (i + 3) 12)))), (4, .int (nI (pn (gsa G) (i + 2) 6))), (0, .ref (gad G 42)), (1, .ref (gsa G 900)), (2, .int (nI i)), (3, .int (nI a))]) rfl (by rw [hL]; decide) ?_
    refine g_aload_n C dL_happens_329 4 rfl ?_
    refine gf_L_waivedTo C tw364 dL_happens_330 ?_
    refine g_iload C dL_happens_333 3 rfl ?_
    refine g_iload C dL_happens_335 2 rfl ?_
    refine as_43 C b1 dL_happens_337 ?_
    refine g_iload C dL_happens_338 0 rfl ?_
    refine g_iload C dL_happens_340 1 rfl ?_
    refine g_callSiW C dL_happens_342 (c_L_told_1 _ _ _ _ _ _ _ _ _ ) tw534 tw535 tw0 tw536 rfl ⟨by decide +kernel, by decide +kernel, rfl⟩ ⟨rfl, rfl⟩ (by rw [hR]; exact ⟨Nat.le_of_ble_eq_true rfl, Nat.le_of_ble_eq_true rfl⟩) (Nat.le_of_ble_eq_true rfl) (by omega) (fun r_21 X1 M1 K1 h_22 => ?_)
    obtain ⟨rfl, hX1, hM1, hK1⟩ := h_22
    subst X1 M1 K1
    refine g_icmp_ne C dL_happens_345 (tgt := 352) (by decide) (fun c_345 => absurd c_345 (not_not_intro (by rw [I.iw h45 b1]; first | (rw [c_291]; done) | (rw [bo1 (wv_l_bo _ _ _) c_291]; done) | (rw [c_291]; decide) | (rw [bo1 (wv_l_bo _ _ _) c_291]; decide)))) (fun c_345 => ?_)
    refine g_iconst C dL_happens_348 (v := 1) (by decide) ?_
    refine g_goto C dL_happens_349 (tgt := 353) (by decide) ?_
    refine g_zretW C hr (by decide) hQ (by omega) (by omega) dL_happens_353 ?_
    exact ⟨rfl, (I.waive b1 b2).up he, h45⟩

set_option maxHeartbeats 1000000 in
set_option maxRecDepth 100000 in
theorem hp_4 {G : MC} (C : Cx G cL_happens yL_happens.cls) (hst : (gl G).stackTraces = false) (hR : gR G = { frames := 15, cells := 11, slots := 32006, locals := 413 }) (hL : gL G = 17) (hr : (gme G).sig.returnType = some .boolean) {e v z5 : Nat} {X M : XF} {K : KF} (he : e + 1 ≤ v + 2) (I : IV (gsa G) e v z5 X M K) (h45 : ¬ X 118 0 = 45) (i a : Nat) (hi : i < 2 ^ 18) (ha : a < 9)  (hQ : gQ G = MQ (gbe G) (QiW (gD G) (gcy G) (gA G) (gad G) (fun r X1 M1 K1 => r = 1 ∧ IV (gsa G) (e + 1) v z5 X1 M1 K1 ∧ ¬ X1 118 0 = 45)) (gas G) (gs G) 11 32006 (gA G)) : GH G (WX G X M K) [(0, .ref (gad G 42)), (1, .ref (gsa G 900)), (2, .int (nI i)), (3, .int (nI a))] 0 0 354 [] := by
  have hrc : (gR G).cells = 11 := by rw [hR]
  have hrs : (gR G).slots = 32006 := by rw [hR]
  have b1 := pn_lt (gsa G) (i + 2) (m := 3) (by decide)
  have e47 : M 47 (pn (gsa G) (i + 2) 3) = X 6 (pn (gsa G) (i + 2) 3) := (I.tk.1 _ b1).2.2.2.2.2.2.1
  refine g_aload_n C dL_happens_354 1 rfl ?_
  refine g_iload_n C dL_happens_355 2 rfl ?_
  refine g_iconst C dL_happens_356 (v := 2) (by decide) ?_
  refine g_iadd C dL_happens_357 ?_
  refine g_topi (by exact nI_add i 2) ?_
  refine g_iconst C dL_happens_358 (v := 3) (by decide) ?_
  refine g_callSiW C dL_happens_359 (c_L_pick _ _ _ _ _ _ _ _ _ (i + 2) (by omega) 3 (by decide) (by decide)) tw399 tw400 tw0 tw401 rfl ⟨by decide +kernel, by decide +kernel, rfl⟩ ⟨rfl, rfl⟩ (by rw [hR]; exact ⟨Nat.le_of_ble_eq_true rfl, Nat.le_of_ble_eq_true rfl⟩) (Nat.le_of_ble_eq_true rfl) (by omega) (fun r_1 X1 M1 K1 h_2 => ?_)
  obtain ⟨rfl, hX1, hM1, hK1⟩ := h_2
  subst X1 M1 K1
  refine g_istore C dL_happens_362 (L' := [(8, .int (nI (pn (gsa G) (i + 2) 3))), (0, .ref (gad G 42)), (1, .ref (gsa G 900)), (2, .int (nI i)), (3, .int (nI a))]) rfl (by rw [hL]; decide) ?_
  refine g_aload_n C dL_happens_364 2 rfl ?_
  refine g_iload_n C dL_happens_365 3 rfl ?_
  refine g_iconst C dL_happens_366 (v := 3) (by decide) ?_
  refine g_iadd C dL_happens_367 ?_
  refine g_topi (by exact nI_add i 3) ?_
  refine g_iconst C dL_happens_368 (v := 3) (by decide) ?_
  refine g_callSiW C dL_happens_369 (c_L_pick _ _ _ _ _ _ _ _ _ (i + 3) (by omega) 3 (by decide) (by decide)) tw399 tw400 tw0 tw401 rfl ⟨by decide +kernel, by decide +kernel, rfl⟩ ⟨rfl, rfl⟩ (by rw [hR]; exact ⟨Nat.le_of_ble_eq_true rfl, Nat.le_of_ble_eq_true rfl⟩) (Nat.le_of_ble_eq_true rfl) (by omega) (fun r_3 X1 M1 K1 h_4 => ?_)
  obtain ⟨rfl, hX1, hM1, hK1⟩ := h_4
  subst X1 M1 K1
  refine g_if_le C dL_happens_372 (tgt := 379) (by decide) (fun c_372 => ?_) (fun c_372 => ?_)
  · try simp only [sa_ap, si_ap, reduceIte, Nat.reduceEqDiff, up_us, lg_cmp_lt, lg_cmp_gt, lg_cmp_le, lg_cmp_ge] at c_372
    refine g_iconst C dL_happens_379 (v := 0) (by decide) ?_
    refine g_istore C dL_happens_380 (L' := [(9, .int 0), (8, .int (nI (pn (gsa G) (i + 2) 3))), (0, .ref (gad G 42)), (1, .ref (gsa G 900)), (2, .int (nI i)), (3, .int (nI a))]) rfl (by rw [hL]; decide) ?_
    refine g_aload_n C dL_happens_382 2 rfl ?_
    refine gf_L_valves C tw368 dL_happens_383 ?_
    refine g_iload C dL_happens_386 1 rfl ?_
    refine al_47 C b1 dL_happens_388 ?_
    refine g_topi rfl ?_
    refine g_istore C dL_happens_389 (L' := [(10, .int (M 47 (pn (gsa G) (i + 2) 3))), (9, .int 0), (8, .int (nI (pn (gsa G) (i + 2) 3))), (0, .ref (gad G 42)), (1, .ref (gsa G 900)), (2, .int (nI i)), (3, .int (nI a))]) rfl (by rw [hL]; decide) ?_
    refine g_aload_n C dL_happens_391 3 rfl ?_
    refine gf_L_valves C tw368 dL_happens_392 ?_
    refine g_iload C dL_happens_395 2 rfl ?_
    refine g_iload C dL_happens_397 1 rfl ?_
    refine as_47 C (by first | exact isBo_0 | exact isBo_1 | assumption) b1 dL_happens_399 ?_
    refine g_aload_n C dL_happens_400 3 rfl ?_
    refine gf_L_o C tw363 dL_happens_401 ?_
    refine g_iconst C dL_happens_404 (v := 1) (by decide) ?_
    refine g_iload C dL_happens_405 2 rfl ?_
    refine g_iload C dL_happens_407 1 rfl ?_
    refine g_callSiW C dL_happens_409 (c_L_told_0 _ _ _ _ _ _ _ _ _ ) tw534 tw535 tw0 tw536 rfl ⟨by decide +kernel, by decide +kernel, rfl⟩ ⟨rfl, rfl⟩ (by rw [hR]; exact ⟨Nat.le_of_ble_eq_true rfl, Nat.le_of_ble_eq_true rfl⟩) (Nat.le_of_ble_eq_true rfl) (by omega) (fun r_5 X1 M1 K1 h_6 => ?_)
    obtain ⟨rfl, hX1, hM1, hK1⟩ := h_6
    subst X1 M1 K1
    refine g_iconst C dL_happens_412 (v := 0) (by decide) ?_
    refine g_iconst C dL_happens_413 (v := 0) (by decide) ?_
    refine g_iconst C dL_happens_414 (v := 0) (by decide) ?_
    refine g_callH C dL_happens_415 (c_deedf_1_0 _ _ _ _ _ _ _ _ _ (pn (gsa G) (i + 2) 3) b1 I.b6 0 0 0) tw407 tw408 tw0 tw409 rfl ⟨by decide +kernel, by decide +kernel, rfl⟩ ⟨rfl, rfl⟩ (by rw [hR]; exact ⟨Nat.le_of_ble_eq_true rfl, Nat.le_of_ble_eq_true rfl⟩) (Nat.le_of_ble_eq_true rfl) (by omega) (fun r_7 X1 M1 K1 h_8 => ?_)
    obtain ⟨rfl, hX1, hM1, hK1⟩ := h_8
    subst X1 M1 K1
    refine g_iload C dL_happens_418 0 rfl ?_
    refine g_callSiW C dL_happens_420 (c_L_told _ _ _ _ _ _ _ _ _ _) tw534 tw535 tw0 tw536 rfl ⟨by decide +kernel, by decide +kernel, rfl⟩ ⟨rfl, rfl⟩ (by rw [hR]; exact ⟨Nat.le_of_ble_eq_true rfl, Nat.le_of_ble_eq_true rfl⟩) (Nat.le_of_ble_eq_true rfl) (by omega) (fun r_9 X1 M1 K1 h_10 => ?_)
    obtain ⟨rfl, hX1, hM1, hK1⟩ := h_10
    subst X1 M1 K1
    refine g_icmp_ne C dL_happens_423 (tgt := 430) (by decide) (fun c_423 => absurd c_423 (not_not_intro (by rw [e47]))) (fun c_423 => ?_)
    refine g_iconst C dL_happens_426 (v := 1) (by decide) ?_
    refine g_goto C dL_happens_427 (tgt := 431) (by decide) ?_
    refine g_zretW C hr (by decide) hQ (by omega) (by omega) dL_happens_431 ?_
    first | exact ⟨rfl, (I.valve isBo_0).up he, h45⟩ | exact ⟨rfl, (I.valve isBo_1).up he, h45⟩
  · try simp only [sa_ap, si_ap, reduceIte, Nat.reduceEqDiff, up_us, lg_cmp_lt, lg_cmp_gt, lg_cmp_le, lg_cmp_ge] at c_372
    refine g_iconst C dL_happens_375 (v := 1) (by decide) ?_
    refine g_goto C dL_happens_376 (tgt := 380) (by decide) ?_
    refine g_istore C dL_happens_380 (L' := [(9, .int 1), (8, .int (nI (pn (gsa G) (i + 2) 3))), (0, .ref (gad G 42)), (1, .ref (gsa G 900)), (2, .int (nI i)), (3, .int (nI a))]) rfl (by rw [hL]; decide) ?_
    refine g_aload_n C dL_happens_382 2 rfl ?_
    refine gf_L_valves C tw368 dL_happens_383 ?_
    refine g_iload C dL_happens_386 1 rfl ?_
    refine al_47 C b1 dL_happens_388 ?_
    refine g_topi rfl ?_
    refine g_istore C dL_happens_389 (L' := [(10, .int (M 47 (pn (gsa G) (i + 2) 3))), (9, .int 1), (8, .int (nI (pn (gsa G) (i + 2) 3))), (0, .ref (gad G 42)), (1, .ref (gsa G 900)), (2, .int (nI i)), (3, .int (nI a))]) rfl (by rw [hL]; decide) ?_
    refine g_aload_n C dL_happens_391 3 rfl ?_
    refine gf_L_valves C tw368 dL_happens_392 ?_
    refine g_iload C dL_happens_395 2 rfl ?_
    refine g_iload C dL_happens_397 1 rfl ?_
    refine as_47 C (by first | exact isBo_0 | exact isBo_1 | assumption) b1 dL_happens_399 ?_
    refine g_aload_n C dL_happens_400 3 rfl ?_
    refine gf_L_o C tw363 dL_happens_401 ?_
    refine g_iconst C dL_happens_404 (v := 1) (by decide) ?_
    refine g_iload C dL_happens_405 2 rfl ?_
    refine g_iload C dL_happens_407 1 rfl ?_
    refine g_callSiW C dL_happens_409 (c_L_told_1 _ _ _ _ _ _ _ _ _ ) tw534 tw535 tw0 tw536 rfl ⟨by decide +kernel, by decide +kernel, rfl⟩ ⟨rfl, rfl⟩ (by rw [hR]; exact ⟨Nat.le_of_ble_eq_true rfl, Nat.le_of_ble_eq_true rfl⟩) (Nat.le_of_ble_eq_true rfl) (by omega) (fun r_11 X1 M1 K1 h_12 => ?_)
    obtain ⟨rfl, hX1, hM1, hK1⟩ := h_12
    subst X1 M1 K1
    refine g_iconst C dL_happens_412 (v := 0) (by decide) ?_
    refine g_iconst C dL_happens_413 (v := 0) (by decide) ?_
    refine g_iconst C dL_happens_414 (v := 0) (by decide) ?_
    refine g_callH C dL_happens_415 (c_deedf_1_1 _ _ _ _ _ _ _ _ _ (pn (gsa G) (i + 2) 3) b1 I.b6 0 0 0) tw407 tw408 tw0 tw409 rfl ⟨by decide +kernel, by decide +kernel, rfl⟩ ⟨rfl, rfl⟩ (by rw [hR]; exact ⟨Nat.le_of_ble_eq_true rfl, Nat.le_of_ble_eq_true rfl⟩) (Nat.le_of_ble_eq_true rfl) (by omega) (fun r_13 X1 M1 K1 h_14 => ?_)
    obtain ⟨rfl, hX1, hM1, hK1⟩ := h_14
    subst X1 M1 K1
    refine g_iload C dL_happens_418 0 rfl ?_
    refine g_callSiW C dL_happens_420 (c_L_told _ _ _ _ _ _ _ _ _ _) tw534 tw535 tw0 tw536 rfl ⟨by decide +kernel, by decide +kernel, rfl⟩ ⟨rfl, rfl⟩ (by rw [hR]; exact ⟨Nat.le_of_ble_eq_true rfl, Nat.le_of_ble_eq_true rfl⟩) (Nat.le_of_ble_eq_true rfl) (by omega) (fun r_15 X1 M1 K1 h_16 => ?_)
    obtain ⟨rfl, hX1, hM1, hK1⟩ := h_16
    subst X1 M1 K1
    refine g_icmp_ne C dL_happens_423 (tgt := 430) (by decide) (fun c_423 => absurd c_423 (not_not_intro (by rw [e47]))) (fun c_423 => ?_)
    refine g_iconst C dL_happens_426 (v := 1) (by decide) ?_
    refine g_goto C dL_happens_427 (tgt := 431) (by decide) ?_
    refine g_zretW C hr (by decide) hQ (by omega) (by omega) dL_happens_431 ?_
    first | exact ⟨rfl, (I.valve isBo_0).up he, h45⟩ | exact ⟨rfl, (I.valve isBo_1).up he, h45⟩

set_option maxHeartbeats 1000000 in
set_option maxRecDepth 100000 in
theorem hp_5 {G : MC} (C : Cx G cL_happens yL_happens.cls) (hst : (gl G).stackTraces = false) (hR : gR G = { frames := 15, cells := 11, slots := 32006, locals := 413 }) (hL : gL G = 17) (hr : (gme G).sig.returnType = some .boolean) {e v z5 : Nat} {X M : XF} {K : KF} (he : e + 1 ≤ v + 2) (I : IV (gsa G) e v z5 X M K) (h45 : ¬ X 118 0 = 45) (i a : Nat) (hi : i < 2 ^ 18) (ha : a < 9)  (hQ : gQ G = MQ (gbe G) (QiW (gD G) (gcy G) (gA G) (gad G) (fun r X1 M1 K1 => r = 1 ∧ IV (gsa G) (e + 1) v z5 X1 M1 K1 ∧ ¬ X1 118 0 = 45)) (gas G) (gs G) 11 32006 (gA G)) : GH G (WX G X M K) [(0, .ref (gad G 42)), (1, .ref (gsa G 900)), (2, .int (nI i)), (3, .int (nI a))] 0 0 432 [] := by
  have hrc : (gR G).cells = 11 := by rw [hR]
  have hrs : (gR G).slots = 32006 := by rw [hR]
  have b1 := pn_lt (gsa G) (i + 2) (m := 3) (by decide)
  have b2 := pn_lt (gsa G) (i + 3) (m := 50) (by decide)
  refine g_aload_n C dL_happens_432 1 rfl ?_
  refine g_iload_n C dL_happens_433 2 rfl ?_
  refine g_iconst C dL_happens_434 (v := 2) (by decide) ?_
  refine g_iadd C dL_happens_435 ?_
  refine g_topi (by exact nI_add i 2) ?_
  refine g_iconst C dL_happens_436 (v := 3) (by decide) ?_
  refine g_callSiW C dL_happens_437 (c_L_pick _ _ _ _ _ _ _ _ _ (i + 2) (by omega) 3 (by decide) (by decide)) tw399 tw400 tw0 tw401 rfl ⟨by decide +kernel, by decide +kernel, rfl⟩ ⟨rfl, rfl⟩ (by rw [hR]; exact ⟨Nat.le_of_ble_eq_true rfl, Nat.le_of_ble_eq_true rfl⟩) (Nat.le_of_ble_eq_true rfl) (by omega) (fun r_1 X1 M1 K1 h_2 => ?_)
  obtain ⟨rfl, hX1, hM1, hK1⟩ := h_2
  subst X1 M1 K1
  refine g_istore C dL_happens_440 (L' := [(11, .int (nI (pn (gsa G) (i + 2) 3))), (0, .ref (gad G 42)), (1, .ref (gsa G 900)), (2, .int (nI i)), (3, .int (nI a))]) rfl (by rw [hL]; decide) ?_
  refine g_aload_n C dL_happens_442 1 rfl ?_
  refine gf_L_o C tw363 dL_happens_443 ?_
  refine g_bipush C dL_happens_446 (v := 20) (by decide) ?_
  refine g_iload C dL_happens_448 0 rfl ?_
  refine g_iconst C dL_happens_450 (v := 0) (by decide) ?_
  refine g_callSiW C dL_happens_451 (c_ask_20 _ _ _ _ _ _ _ _ _ (pn (gsa G) (i + 2) 3) b1 _) tw1112 tw1113 tw0 tw1114 rfl ⟨by decide +kernel, by decide +kernel, rfl⟩ ⟨rfl, rfl⟩ (by rw [hR]; exact ⟨Nat.le_of_ble_eq_true rfl, Nat.le_of_ble_eq_true rfl⟩) (Nat.le_of_ble_eq_true rfl) (by omega) (fun r_3 X1 M1 K1 h_4 => ?_)
  obtain ⟨rfl, hX1, hM1, hK1⟩ := h_4
  subst X1 M1 K1
  refine g_istore C dL_happens_454 (L' := [(12, .int (X 5 (pn (gsa G) (i + 2) 3))), (11, .int (nI (pn (gsa G) (i + 2) 3))), (0, .ref (gad G 42)), (1, .ref (gsa G 900)), (2, .int (nI i)), (3, .int (nI a))]) rfl (by rw [hL]; decide) ?_
  refine g_aload_n C dL_happens_456 2 rfl ?_
  refine gf_L_o C tw363 dL_happens_457 ?_
  refine g_iconst C dL_happens_460 (v := 2) (by decide) ?_
  refine g_iload C dL_happens_461 1 rfl ?_
  refine g_iconst C dL_happens_463 (v := 1) (by decide) ?_
  refine g_aload_n C dL_happens_464 3 rfl ?_
  refine g_iload_n C dL_happens_465 4 rfl ?_
  refine g_iconst C dL_happens_466 (v := 3) (by decide) ?_
  refine g_iadd C dL_happens_467 ?_
  refine g_topi (by exact nI_add i 3) ?_
  refine g_bipush C dL_happens_468 (v := 50) (by decide) ?_
  refine g_callSiW C dL_happens_470 (c_L_pick _ _ _ _ _ _ _ _ _ (i + 3) (by omega) 50 (by decide) (by decide)) tw399 tw400 tw0 tw401 rfl ⟨by decide +kernel, by decide +kernel, rfl⟩ ⟨rfl, rfl⟩ (by rw [hR]; exact ⟨Nat.le_of_ble_eq_true rfl, Nat.le_of_ble_eq_true rfl⟩) (Nat.le_of_ble_eq_true rfl) (by omega) (fun r_5 X1 M1 K1 h_6 => ?_)
  obtain ⟨rfl, hX1, hM1, hK1⟩ := h_6
  subst X1 M1 K1
  generalize pn (gsa G) (i + 3) 50 = d at b2 ⊢
  refine g_topi (y := nI d) rfl ?_
  refine g_iadd C dL_happens_473 ?_
  refine g_topi (y := nI (1 + d)) (by exact nI_add 1 _) ?_
  refine g_callSiW C dL_happens_474 (c_ask_2 _ _ _ _ _ _ _ _ _ (pn (gsa G) (i + 2) 3) b1 (nI (1 + d)) (drain_ok b1 b2)) tw1112 tw1113 tw0 tw1114 rfl ⟨by decide +kernel, by decide +kernel, rfl⟩ ⟨rfl, rfl⟩ (by rw [hR]; exact ⟨Nat.le_of_ble_eq_true rfl, Nat.le_of_ble_eq_true rfl⟩) (Nat.le_of_ble_eq_true rfl) (by omega) (fun r_7 X1 M1 K1 h_8 => ?_)
  obtain ⟨rfl, hX1, hM1, hK1⟩ := h_8
  subst X1 M1 K1
  refine g_istore C dL_happens_477 (L' := [(13, .int (tk_min (X 5 (pn (gsa G) (i + 2) 3)) (nI (1 + d)))), (12, .int (X 5 (pn (gsa G) (i + 2) 3))), (11, .int (nI (pn (gsa G) (i + 2) 3))), (0, .ref (gad G 42)), (1, .ref (gsa G 900)), (2, .int (nI i)), (3, .int (nI a))]) rfl (by rw [hL]; decide) ?_
  refine g_iload C dL_happens_479 0 rfl ?_
  refine g_iload C dL_happens_481 1 rfl ?_
  refine g_icmp_gt C dL_happens_483 (tgt := 510) (by decide) (fun c_483 => absurd c_483 (min_le _ _)) (fun c_483 => ?_)
  refine g_aload_n C dL_happens_486 3 rfl ?_
  refine gf_L_o C tw363 dL_happens_487 ?_
  refine g_bipush C dL_happens_490 (v := 20) (by decide) ?_
  refine g_iload C dL_happens_492 2 rfl ?_
  refine g_iconst C dL_happens_494 (v := 0) (by decide) ?_
  refine g_callSiW C dL_happens_495 (c_ask_20 _ _ _ _ _ _ _ _ _ (pn (gsa G) (i + 2) 3) b1 _) tw1112 tw1113 tw0 tw1114 rfl ⟨by decide +kernel, by decide +kernel, rfl⟩ ⟨rfl, rfl⟩ (by rw [hR]; exact ⟨Nat.le_of_ble_eq_true rfl, Nat.le_of_ble_eq_true rfl⟩) (Nat.le_of_ble_eq_true rfl) (by omega) (fun r_9 X1 M1 K1 h_10 => ?_)
  obtain ⟨rfl, hX1, hM1, hK1⟩ := h_10
  subst X1 M1 K1
  refine g_iload C dL_happens_498 1 rfl ?_
  refine g_iload C dL_happens_500 0 rfl ?_
  refine g_isub C dL_happens_502 ?_
  refine g_icmp_ne C dL_happens_503 (tgt := 510) (by decide) (fun c_503 => absurd c_503 (not_not_intro ((congrFun (sa_same _ _ _) _).trans (up_us _ _ _)))) (fun c_503 => ?_)
  refine g_iconst C dL_happens_506 (v := 1) (by decide) ?_
  refine g_goto C dL_happens_507 (tgt := 511) (by decide) ?_
  refine g_zretW C hr (by decide) hQ (by omega) (by omega) dL_happens_511 ?_
  exact ⟨rfl, (I.drain b1 (by omega)).up he, h45⟩

set_option maxHeartbeats 1000000 in
set_option maxRecDepth 100000 in
theorem hp_6 {G : MC} (C : Cx G cL_happens yL_happens.cls) (hst : (gl G).stackTraces = false) (hR : gR G = { frames := 15, cells := 11, slots := 32006, locals := 413 }) (hL : gL G = 17) (hr : (gme G).sig.returnType = some .boolean) {e v z5 : Nat} {X M : XF} {K : KF} (he : e + 1 ≤ v + 2) (I : IV (gsa G) e v z5 X M K) (h45 : ¬ X 118 0 = 45) (i a : Nat) (hi : i < 2 ^ 18) (ha : a < 9)  (hQ : gQ G = MQ (gbe G) (QiW (gD G) (gcy G) (gA G) (gad G) (fun r X1 M1 K1 => r = 1 ∧ IV (gsa G) (e + 1) v z5 X1 M1 K1 ∧ ¬ X1 118 0 = 45)) (gas G) (gs G) 11 32006 (gA G)) : GH G (WX G X M K) [(0, .ref (gad G 42)), (1, .ref (gsa G 900)), (2, .int (nI i)), (3, .int (nI a))] 0 0 512 [] := by
  have hrc : (gR G).cells = 11 := by rw [hR]
  have hrs : (gR G).slots = 32006 := by rw [hR]
  refine g_aload_n C dL_happens_512 0 rfl ?_
  refine g_aload_n C dL_happens_513 1 rfl ?_
  refine g_iload_n C dL_happens_514 2 rfl ?_
  refine g_iconst C dL_happens_515 (v := 2) (by decide) ?_
  refine g_iadd C dL_happens_516 ?_
  refine g_topi (by exact nI_add i 2) ?_
  refine g_callViW C dL_happens_517 (c_L_begins _ _ _ _ _ _ _ _ _ (i + 2) (by omega) e v z5 I he hst) tw1133 tw1135 tp16 tw0 tw1136 (rv_L C) rfl ⟨by decide +kernel, by decide +kernel, rfl⟩ ⟨rfl, rfl⟩ (by rw [hR]; exact ⟨Nat.le_of_ble_eq_true rfl, Nat.le_of_ble_eq_true rfl⟩) (Nat.le_of_ble_eq_true rfl) (by omega) (fun r_1 X1 M1 K1 h_2 => ?_)
  obtain ⟨q1, q2, q3⟩ := h_2
  subst q1
  exact g_zretW C hr (by decide) hQ (by omega) (by omega) dL_happens_520 ⟨rfl, q2, q3⟩

set_option maxHeartbeats 1000000 in
set_option maxRecDepth 100000 in
theorem hp_7b {G : MC} (C : Cx G cL_happens yL_happens.cls) (hst : (gl G).stackTraces = false) (hR : gR G = { frames := 15, cells := 11, slots := 32006, locals := 413 }) (hL : gL G = 17) (hr : (gme G).sig.returnType = some .boolean) {e v z5 : Nat} {X M : XF} {K : KF} (he : e + 1 ≤ v + 2) (I : IV (gsa G) e v z5 X M K) (h45 : ¬ X 118 0 = 45) (i a : Nat) (hi : i < 2 ^ 18) (ha : a < 9) (r : Int32) (hr0 : r < 0) (hr1 : r = -20004 ∨ r = -20001) (hQ : gQ G = MQ (gbe G) (QiW (gD G) (gcy G) (gA G) (gad G) (fun r X1 M1 K1 => r = 1 ∧ IV (gsa G) (e + 1) v z5 X1 M1 K1 ∧ ¬ X1 118 0 = 45)) (gas G) (gs G) 11 32006 (gA G)) : GH G (WX G X M K) [(0, .ref (gad G 42)), (1, .ref (gsa G 900)), (2, .int (nI i)), (3, .int (nI a)), (14, .int (X 106 0)), (15, .int r)] (0 + ((kLs K 0 v [82]).2.1 4 - K.2.1 4 + 1)) (0 + ((kLs K 0 v [82]).2.1 6 - K.2.1 6 + 6)) 565 [] := by
  have hrc : (gR G).cells = 11 := by rw [hR]
  have hrs : (gR G).slots = 32006 := by rw [hR]
  have hls := I.ls (cs := [82]) (by decide)
  refine g_aload_n C dL_happens_565 0 rfl ?_
  refine g_aload_n C dL_happens_566 0 rfl ?_
  refine gf_L_wasSetBack C tw371 dL_happens_567 ?_
  refine g_if_ne C dL_happens_570 (tgt := 578) (by decide) (fun c_570 => ?_) (fun c_570 => ?_)
  · try simp only [sa_ap, si_ap, reduceIte, Nat.reduceEqDiff, up_us, lg_cmp_lt, lg_cmp_gt, lg_cmp_le, lg_cmp_ge] at c_570
    refine g_iconst C dL_happens_578 (v := 1) (by decide) ?_
    refine g_goto C dL_happens_579 (tgt := 583) (by decide) ?_
    refine pf_L_wasSetBack C (by first | exact isBo_0 | exact isBo_1 | assumption) tw371 dL_happens_583 ?_
    refine g_iconst C dL_happens_586 (v := 0) (by decide) ?_
    refine g_istore C dL_happens_587 (L' := [(16, .int 0), (0, .ref (gad G 42)), (1, .ref (gsa G 900)), (2, .int (nI i)), (3, .int (nI a)), (14, .int (X 106 0)), (15, .int r)]) rfl (by rw [hL]; decide) ?_
    refine g_iload C dL_happens_589 0 rfl ?_
    refine g_bipush C dL_happens_591 (v := 6) (by decide) ?_
    refine g_icmp_ge C dL_happens_593 (tgt := 617) (by decide) (fun c_593 => absurd c_593 (by decide)) (fun c_593 => ?_)
    refine g_iload C dL_happens_596 6 rfl ?_
    refine g_if_lt C dL_happens_598 (tgt := 617) (by decide) (fun c_598 => ?_) (fun c_598 => absurd hr0 c_598)
    refine g_iload C dL_happens_617 6 rfl ?_
    refine g_sipush C dL_happens_619 (v := (-20004)) (by decide) ?_
    refine g_icmp_eq C dL_happens_622 (tgt := 666) (by decide) (fun c_622 => ?_) (fun c_622 => ?_)
    · try simp only [sa_ap, si_ap, reduceIte, Nat.reduceEqDiff, up_us, lg_cmp_lt, lg_cmp_gt, lg_cmp_le, lg_cmp_ge] at c_622
      refine g_iconst C dL_happens_666 (v := 1) (by decide) ?_
      refine g_goto C dL_happens_667 (tgt := 671) (by decide) ?_
      refine g_zretW C hr (by decide) hQ (by omega) (by omega) dL_happens_671 ?_
      exact ⟨rfl, (I.M102 (by first | exact (bo1 I.sp.2.2.1 c_570).symm | exact c_570.symm)).up he, h45⟩
    · try simp only [sa_ap, si_ap, reduceIte, Nat.reduceEqDiff, up_us, lg_cmp_lt, lg_cmp_gt, lg_cmp_le, lg_cmp_ge] at c_622
      refine g_iload C dL_happens_625 6 rfl ?_
      refine g_sipush C dL_happens_627 (v := (-20001)) (by decide) ?_
      refine g_icmp_eq C dL_happens_630 (tgt := 666) (by decide) (fun c_630 => ?_) (fun c_630 => absurd (hr1.resolve_left c_622) c_630)
      refine g_iconst C dL_happens_666 (v := 1) (by decide) ?_
      refine g_goto C dL_happens_667 (tgt := 671) (by decide) ?_
      refine g_zretW C hr (by decide) hQ (by omega) (by omega) dL_happens_671 ?_
      exact ⟨rfl, (I.M102 (by first | exact (bo1 I.sp.2.2.1 c_570).symm | exact c_570.symm)).up he, h45⟩
  · try simp only [sa_ap, si_ap, reduceIte, Nat.reduceEqDiff, up_us, lg_cmp_lt, lg_cmp_gt, lg_cmp_le, lg_cmp_ge] at c_570
    refine g_iload C dL_happens_573 5 rfl ?_
    refine g_if_lt C dL_happens_575 (tgt := 582) (by decide) (fun c_575 => ?_) (fun c_575 => absurd hr0 c_575)
    refine g_iconst C dL_happens_582 (v := 0) (by decide) ?_
    refine pf_L_wasSetBack C (by first | exact isBo_0 | exact isBo_1 | assumption) tw371 dL_happens_583 ?_
    refine g_iconst C dL_happens_586 (v := 0) (by decide) ?_
    refine g_istore C dL_happens_587 (L' := [(16, .int 0), (0, .ref (gad G 42)), (1, .ref (gsa G 900)), (2, .int (nI i)), (3, .int (nI a)), (14, .int (X 106 0)), (15, .int r)]) rfl (by rw [hL]; decide) ?_
    refine g_iload C dL_happens_589 0 rfl ?_
    refine g_bipush C dL_happens_591 (v := 6) (by decide) ?_
    refine g_icmp_ge C dL_happens_593 (tgt := 617) (by decide) (fun c_593 => absurd c_593 (by decide)) (fun c_593 => ?_)
    refine g_iload C dL_happens_596 6 rfl ?_
    refine g_if_lt C dL_happens_598 (tgt := 617) (by decide) (fun c_598 => ?_) (fun c_598 => absurd hr0 c_598)
    refine g_iload C dL_happens_617 6 rfl ?_
    refine g_sipush C dL_happens_619 (v := (-20004)) (by decide) ?_
    refine g_icmp_eq C dL_happens_622 (tgt := 666) (by decide) (fun c_622 => ?_) (fun c_622 => ?_)
    · try simp only [sa_ap, si_ap, reduceIte, Nat.reduceEqDiff, up_us, lg_cmp_lt, lg_cmp_gt, lg_cmp_le, lg_cmp_ge] at c_622
      refine g_iconst C dL_happens_666 (v := 1) (by decide) ?_
      refine g_goto C dL_happens_667 (tgt := 671) (by decide) ?_
      refine g_zretW C hr (by decide) hQ (by omega) (by omega) dL_happens_671 ?_
      exact ⟨rfl, (I.M102 (by first | exact (bo1 I.sp.2.2.1 c_570).symm | exact c_570.symm)).up he, h45⟩
    · try simp only [sa_ap, si_ap, reduceIte, Nat.reduceEqDiff, up_us, lg_cmp_lt, lg_cmp_gt, lg_cmp_le, lg_cmp_ge] at c_622
      refine g_iload C dL_happens_625 6 rfl ?_
      refine g_sipush C dL_happens_627 (v := (-20001)) (by decide) ?_
      refine g_icmp_eq C dL_happens_630 (tgt := 666) (by decide) (fun c_630 => ?_) (fun c_630 => absurd (hr1.resolve_left c_622) c_630)
      refine g_iconst C dL_happens_666 (v := 1) (by decide) ?_
      refine g_goto C dL_happens_667 (tgt := 671) (by decide) ?_
      refine g_zretW C hr (by decide) hQ (by omega) (by omega) dL_happens_671 ?_
      exact ⟨rfl, (I.M102 (by first | exact (bo1 I.sp.2.2.1 c_570).symm | exact c_570.symm)).up he, h45⟩

set_option maxHeartbeats 1000000 in
set_option maxRecDepth 100000 in
theorem hp_7a {G : MC} (C : Cx G cL_happens yL_happens.cls) (hst : (gl G).stackTraces = false) (hR : gR G = { frames := 15, cells := 11, slots := 32006, locals := 413 }) (hL : gL G = 17) (hr : (gme G).sig.returnType = some .boolean) {e v z5 : Nat} {X M : XF} {K : KF} (he : e + 1 ≤ v + 2) (I : IV (gsa G) e v z5 X M K) (h45 : ¬ X 118 0 = 45) (i a : Nat) (hi : i < 2 ^ 18) (ha : a < 9) (r : Int32) (j : Nat) (hj : j < z5) (hic : ¬ md_ic (X 118 0) = 0) (hlt : X 14 j < X 106 0) (hr0 : ¬ r < 0) (hQ : gQ G = MQ (gbe G) (QiW (gD G) (gcy G) (gA G) (gad G) (fun r X1 M1 K1 => r = 1 ∧ IV (gsa G) (e + 1) v z5 X1 M1 K1 ∧ ¬ X1 118 0 = 45)) (gas G) (gs G) 11 32006 (gA G)) : GH G (WX G (rc_X 6 5 j X) M (kLs K 0 v [82])) [(0, .ref (gad G 42)), (1, .ref (gsa G 900)), (2, .int (nI i)), (3, .int (nI a)), (14, .int (X 106 0)), (15, .int r)] (0 + ((kLs K 0 v [82]).2.1 4 - K.2.1 4 + 1)) (0 + ((kLs K 0 v [82]).2.1 6 - K.2.1 6 + 6)) 565 [] := by
  have hrc : (gR G).cells = 11 := by rw [hR]
  have hrs : (gR G).slots = 32006 := by rw [hR]
  have hls := I.ls (cs := [82]) (by decide)
  refine g_aload_n C dL_happens_565 0 rfl ?_
  refine g_aload_n C dL_happens_566 0 rfl ?_
  refine gf_L_wasSetBack C tw371 dL_happens_567 ?_
  refine g_if_ne C dL_happens_570 (tgt := 578) (by decide) (fun c_570 => ?_) (fun c_570 => ?_)
  · try simp only [sa_ap, si_ap, reduceIte, Nat.reduceEqDiff, up_us, lg_cmp_lt, lg_cmp_gt, lg_cmp_le, lg_cmp_ge] at c_570
    refine g_iconst C dL_happens_578 (v := 1) (by decide) ?_
    refine g_goto C dL_happens_579 (tgt := 583) (by decide) ?_
    refine pf_L_wasSetBack C (by first | exact isBo_0 | exact isBo_1 | assumption) tw371 dL_happens_583 ?_
    refine g_iconst C dL_happens_586 (v := 0) (by decide) ?_
    refine g_istore C dL_happens_587 (L' := [(16, .int 0), (0, .ref (gad G 42)), (1, .ref (gsa G 900)), (2, .int (nI i)), (3, .int (nI a)), (14, .int (X 106 0)), (15, .int r)]) rfl (by rw [hL]; decide) ?_
    have lp589 : ∀ (n q : Nat) (hi : q + n = 6), GH G (WX G (rc_X 6 5 j X) (sa (si M 102 1) 43 (wv0 (M 43) q)) (kLs K 0 v [82])) [(0, .ref (gad G 42)), (1, .ref (gsa G 900)), (2, .int (nI i)), (3, .int (nI a)), (14, .int (X 106 0)), (15, .int r), (16, .int (nI q))] (0 + ((kLs K 0 v [82]).2.1 4 - K.2.1 4 + 1)) (0 + ((kLs K 0 v [82]).2.1 6 - K.2.1 6 + 6)) 589 [] := by
      intro n
      induction n with
      | zero =>
        intro q hi
        obtain rfl : q = 6 := by omega
        refine g_iload C dL_happens_589 6 rfl ?_
        refine g_bipush C dL_happens_591 (v := 6) (by decide) ?_
        refine g_icmp_ge C dL_happens_593 (tgt := 617) (by decide) (fun c_593 => ?_) (fun c_593 => absurd (nI_le (a := 6) (b := 6) (Nat.le_refl _) (by omega)) c_593)
        refine g_iload C dL_happens_617 5 rfl ?_
        refine g_sipush C dL_happens_619 (v := (-20004)) (by decide) ?_
        refine g_icmp_eq C dL_happens_622 (tgt := 666) (by decide) (fun c_622 => absurd c_622 (fun q => hr0 (by rw [q]; decide))) (fun c_622 => ?_)
        refine g_iload C dL_happens_625 5 rfl ?_
        refine g_sipush C dL_happens_627 (v := (-20001)) (by decide) ?_
        refine g_icmp_eq C dL_happens_630 (tgt := 666) (by decide) (fun c_630 => absurd c_630 (fun q => hr0 (by rw [q]; decide))) (fun c_630 => ?_)
        refine g_iload C dL_happens_633 5 rfl ?_
        refine g_if_lt C dL_happens_635 (tgt := 670) (by decide) (fun c_635 => absurd c_635 hr0) (fun c_635 => ?_)
        refine g_aload_n C dL_happens_638 0 rfl ?_
        refine gf_L_o C tw363 dL_happens_639 ?_
        refine g_bipush C dL_happens_642 (v := 25) (by decide) ?_
        refine g_iconst C dL_happens_644 (v := 0) (by decide) ?_
        refine g_iconst C dL_happens_645 (v := 0) (by decide) ?_
        refine g_callSiW C dL_happens_646 (c_ask_25 _ _ _ _ _ _ _ _ _ (by exact (show xk_beg 99 = 0 by decide)) _ _) tw1112 tw1113 tw0 tw1114 rfl ⟨by decide +kernel, by decide +kernel, rfl⟩ ⟨rfl, rfl⟩ (by rw [hR]; exact ⟨Nat.le_of_ble_eq_true rfl, Nat.le_of_ble_eq_true rfl⟩) (Nat.le_of_ble_eq_true rfl) (by omega) (fun r_1 X1 M1 K1 h_2 => ?_)
        obtain ⟨rfl, hX1, hM1, hK1⟩ := h_2
        subst X1 M1 K1
        refine g_iload C dL_happens_649 4 rfl ?_
        refine g_icmp_ge C dL_happens_651 (tgt := 670) (by decide) (fun c_651 => absurd c_651 (Int32.not_le.mpr hlt)) (fun c_651 => ?_)
        refine g_aload_n C dL_happens_654 0 rfl ?_
        refine gf_L_o C tw363 dL_happens_655 ?_
        refine g_callViW C dL_happens_658 (c_X10_state _ _ _ _ _ _ _ _ _ (by exact (show isCh 99 from ⟨by decide, by decide⟩))) tw1141 tw1142 tw1143 tw1 tw1144 (rv_X10 C) rfl ⟨by decide +kernel, by decide +kernel, rfl⟩ ⟨rfl, rfl⟩ (by rw [hR]; exact ⟨Nat.le_of_ble_eq_true rfl, Nat.le_of_ble_eq_true rfl⟩) (Nat.le_of_ble_eq_true rfl) (by omega) (fun r_3 X1 M1 K1 h_4 => ?_)
        obtain ⟨rfl, hX1, hM1, hK1⟩ := h_4
        subst X1 M1 K1
        refine g_bipush C dL_happens_661 (v := 99) (by decide) ?_
        refine g_icmp_ne C dL_happens_663 (tgt := 670) (by decide) (fun c_663 => absurd c_663 (not_not_intro rfl)) (fun c_663 => ?_)
        refine g_iconst C dL_happens_666 (v := 1) (by decide) ?_
        refine g_goto C dL_happens_667 (tgt := 671) (by decide) ?_
        refine g_zretW C hr (by decide) hQ (by omega) (by omega) dL_happens_671 ?_
        exact ⟨rfl, I.recycle he hj hic, (show ¬ (99 : Int32) = 45 by decide)⟩
      | succ n ih =>
        intro q hi
        refine g_iload C dL_happens_589 6 rfl ?_
        refine g_bipush C dL_happens_591 (v := 6) (by decide) ?_
        refine g_icmp_ge C dL_happens_593 (tgt := 617) (by decide) (fun c_593 => absurd c_593 (nI_ge (a := q) (b := 6) (by omega) (by omega))) (fun c_593 => ?_)
        refine g_iload C dL_happens_596 5 rfl ?_
        refine g_if_lt C dL_happens_598 (tgt := 617) (by decide) (fun c_598 => absurd c_598 hr0) (fun c_598 => ?_)
        refine g_aload_n C dL_happens_601 0 rfl ?_
        refine gf_L_waivedTo C tw364 dL_happens_602 ?_
        refine g_iload C dL_happens_605 6 rfl ?_
        refine g_sipush C dL_happens_607 (v := (-9999)) (by decide) ?_
        refine as_43 C (by omega) dL_happens_610 ?_
        refine g_iinc C dL_happens_611 6 rfl (v := nI (q + 1)) (nI_1 _) (L' := [(16, .int (nI (q + 1))), (0, .ref (gad G 42)), (1, .ref (gsa G 900)), (2, .int (nI i)), (3, .int (nI a)), (14, .int (X 106 0)), (15, .int r)]) rfl (by rw [hL]; decide) ?_
        refine g_goto C dL_happens_614 (tgt := 589) (by decide) ?_
        exact g_sub [1, 2, 3, 4, 5, 6, 0] rfl (g_X (by first | with_reducible rfl | (first | with_reducible rfl | (simp only [sa_ap, si_ap, si_sa, sa_sa, sa_3, sa_4, sa_5, sa_6, sa_7, sa_8, wv0, up_us, up_up, c_570]; done) | (simp [sa_ap, si_ap, si_sa, sa_sa, sa_3, sa_4, sa_5, sa_6, sa_7, sa_8, wv0, up_us, up_up, c_570]; done))) (g_M (by first | with_reducible rfl | (first | with_reducible rfl | (simp only [sa_ap, si_ap, si_sa, sa_sa, sa_3, sa_4, sa_5, sa_6, sa_7, sa_8, wv0, up_us, up_up, c_570]; done) | (simp [sa_ap, si_ap, si_sa, sa_sa, sa_3, sa_4, sa_5, sa_6, sa_7, sa_8, wv0, up_us, up_up, c_570]; done))) (ih (q + 1) (by omega))))
    exact g_sub [1, 2, 3, 4, 5, 6, 0] rfl (g_X rfl (g_M (sa_id _ 43 rfl).symm (lp589 (6) 0 (by omega))))
  · try simp only [sa_ap, si_ap, reduceIte, Nat.reduceEqDiff, up_us, lg_cmp_lt, lg_cmp_gt, lg_cmp_le, lg_cmp_ge] at c_570
    refine g_iload C dL_happens_573 5 rfl ?_
    refine g_if_lt C dL_happens_575 (tgt := 582) (by decide) (fun c_575 => absurd c_575 hr0) (fun c_575 => ?_)
    refine g_iconst C dL_happens_578 (v := 1) (by decide) ?_
    refine g_goto C dL_happens_579 (tgt := 583) (by decide) ?_
    refine pf_L_wasSetBack C (by first | exact isBo_0 | exact isBo_1 | assumption) tw371 dL_happens_583 ?_
    refine g_iconst C dL_happens_586 (v := 0) (by decide) ?_
    refine g_istore C dL_happens_587 (L' := [(16, .int 0), (0, .ref (gad G 42)), (1, .ref (gsa G 900)), (2, .int (nI i)), (3, .int (nI a)), (14, .int (X 106 0)), (15, .int r)]) rfl (by rw [hL]; decide) ?_
    have lp589 : ∀ (n q : Nat) (hi : q + n = 6), GH G (WX G (rc_X 6 5 j X) (sa (si M 102 1) 43 (wv0 (M 43) q)) (kLs K 0 v [82])) [(0, .ref (gad G 42)), (1, .ref (gsa G 900)), (2, .int (nI i)), (3, .int (nI a)), (14, .int (X 106 0)), (15, .int r), (16, .int (nI q))] (0 + ((kLs K 0 v [82]).2.1 4 - K.2.1 4 + 1)) (0 + ((kLs K 0 v [82]).2.1 6 - K.2.1 6 + 6)) 589 [] := by
      intro n
      induction n with
      | zero =>
        intro q hi
        obtain rfl : q = 6 := by omega
        refine g_iload C dL_happens_589 6 rfl ?_
        refine g_bipush C dL_happens_591 (v := 6) (by decide) ?_
        refine g_icmp_ge C dL_happens_593 (tgt := 617) (by decide) (fun c_593 => ?_) (fun c_593 => absurd (nI_le (a := 6) (b := 6) (Nat.le_refl _) (by omega)) c_593)
        refine g_iload C dL_happens_617 5 rfl ?_
        refine g_sipush C dL_happens_619 (v := (-20004)) (by decide) ?_
        refine g_icmp_eq C dL_happens_622 (tgt := 666) (by decide) (fun c_622 => absurd c_622 (fun q => hr0 (by rw [q]; decide))) (fun c_622 => ?_)
        refine g_iload C dL_happens_625 5 rfl ?_
        refine g_sipush C dL_happens_627 (v := (-20001)) (by decide) ?_
        refine g_icmp_eq C dL_happens_630 (tgt := 666) (by decide) (fun c_630 => absurd c_630 (fun q => hr0 (by rw [q]; decide))) (fun c_630 => ?_)
        refine g_iload C dL_happens_633 5 rfl ?_
        refine g_if_lt C dL_happens_635 (tgt := 670) (by decide) (fun c_635 => absurd c_635 hr0) (fun c_635 => ?_)
        refine g_aload_n C dL_happens_638 0 rfl ?_
        refine gf_L_o C tw363 dL_happens_639 ?_
        refine g_bipush C dL_happens_642 (v := 25) (by decide) ?_
        refine g_iconst C dL_happens_644 (v := 0) (by decide) ?_
        refine g_iconst C dL_happens_645 (v := 0) (by decide) ?_
        refine g_callSiW C dL_happens_646 (c_ask_25 _ _ _ _ _ _ _ _ _ (by exact (show xk_beg 99 = 0 by decide)) _ _) tw1112 tw1113 tw0 tw1114 rfl ⟨by decide +kernel, by decide +kernel, rfl⟩ ⟨rfl, rfl⟩ (by rw [hR]; exact ⟨Nat.le_of_ble_eq_true rfl, Nat.le_of_ble_eq_true rfl⟩) (Nat.le_of_ble_eq_true rfl) (by omega) (fun r_5 X1 M1 K1 h_6 => ?_)
        obtain ⟨rfl, hX1, hM1, hK1⟩ := h_6
        subst X1 M1 K1
        refine g_iload C dL_happens_649 4 rfl ?_
        refine g_icmp_ge C dL_happens_651 (tgt := 670) (by decide) (fun c_651 => absurd c_651 (Int32.not_le.mpr hlt)) (fun c_651 => ?_)
        refine g_aload_n C dL_happens_654 0 rfl ?_
        refine gf_L_o C tw363 dL_happens_655 ?_
        refine g_callViW C dL_happens_658 (c_X10_state _ _ _ _ _ _ _ _ _ (by exact (show isCh 99 from ⟨by decide, by decide⟩))) tw1141 tw1142 tw1143 tw1 tw1144 (rv_X10 C) rfl ⟨by decide +kernel, by decide +kernel, rfl⟩ ⟨rfl, rfl⟩ (by rw [hR]; exact ⟨Nat.le_of_ble_eq_true rfl, Nat.le_of_ble_eq_true rfl⟩) (Nat.le_of_ble_eq_true rfl) (by omega) (fun r_7 X1 M1 K1 h_8 => ?_)
        obtain ⟨rfl, hX1, hM1, hK1⟩ := h_8
        subst X1 M1 K1
        refine g_bipush C dL_happens_661 (v := 99) (by decide) ?_
        refine g_icmp_ne C dL_happens_663 (tgt := 670) (by decide) (fun c_663 => absurd c_663 (not_not_intro rfl)) (fun c_663 => ?_)
        refine g_iconst C dL_happens_666 (v := 1) (by decide) ?_
        refine g_goto C dL_happens_667 (tgt := 671) (by decide) ?_
        refine g_zretW C hr (by decide) hQ (by omega) (by omega) dL_happens_671 ?_
        exact ⟨rfl, I.recycle he hj hic, (show ¬ (99 : Int32) = 45 by decide)⟩
      | succ n ih =>
        intro q hi
        refine g_iload C dL_happens_589 6 rfl ?_
        refine g_bipush C dL_happens_591 (v := 6) (by decide) ?_
        refine g_icmp_ge C dL_happens_593 (tgt := 617) (by decide) (fun c_593 => absurd c_593 (nI_ge (a := q) (b := 6) (by omega) (by omega))) (fun c_593 => ?_)
        refine g_iload C dL_happens_596 5 rfl ?_
        refine g_if_lt C dL_happens_598 (tgt := 617) (by decide) (fun c_598 => absurd c_598 hr0) (fun c_598 => ?_)
        refine g_aload_n C dL_happens_601 0 rfl ?_
        refine gf_L_waivedTo C tw364 dL_happens_602 ?_
        refine g_iload C dL_happens_605 6 rfl ?_
        refine g_sipush C dL_happens_607 (v := (-9999)) (by decide) ?_
        refine as_43 C (by omega) dL_happens_610 ?_
        refine g_iinc C dL_happens_611 6 rfl (v := nI (q + 1)) (nI_1 _) (L' := [(16, .int (nI (q + 1))), (0, .ref (gad G 42)), (1, .ref (gsa G 900)), (2, .int (nI i)), (3, .int (nI a)), (14, .int (X 106 0)), (15, .int r)]) rfl (by rw [hL]; decide) ?_
        refine g_goto C dL_happens_614 (tgt := 589) (by decide) ?_
        exact g_sub [1, 2, 3, 4, 5, 6, 0] rfl (g_X (by first | with_reducible rfl | (first | with_reducible rfl | (simp only [sa_ap, si_ap, si_sa, sa_sa, sa_3, sa_4, sa_5, sa_6, sa_7, sa_8, wv0, up_us, up_up, c_570]; done) | (simp [sa_ap, si_ap, si_sa, sa_sa, sa_3, sa_4, sa_5, sa_6, sa_7, sa_8, wv0, up_us, up_up, c_570]; done))) (g_M (by first | with_reducible rfl | (first | with_reducible rfl | (simp only [sa_ap, si_ap, si_sa, sa_sa, sa_3, sa_4, sa_5, sa_6, sa_7, sa_8, wv0, up_us, up_up, c_570]; done) | (simp [sa_ap, si_ap, si_sa, sa_sa, sa_3, sa_4, sa_5, sa_6, sa_7, sa_8, wv0, up_us, up_up, c_570]; done))) (ih (q + 1) (by omega))))
    exact g_sub [1, 2, 3, 4, 5, 6, 0] rfl (g_X rfl (g_M (sa_id _ 43 rfl).symm (lp589 (6) 0 (by omega))))

set_option maxHeartbeats 1000000 in
set_option maxRecDepth 100000 in
theorem hp_7 {G : MC} (C : Cx G cL_happens yL_happens.cls) (hst : (gl G).stackTraces = false) (hR : gR G = { frames := 15, cells := 11, slots := 32006, locals := 413 }) (hL : gL G = 17) (hr : (gme G).sig.returnType = some .boolean) {e v z5 : Nat} {X M : XF} {K : KF} (he : e + 1 ≤ v + 2) (I : IV (gsa G) e v z5 X M K) (h45 : ¬ X 118 0 = 45) (i a : Nat) (hi : i < 2 ^ 18) (ha : a < 9)  (hQ : gQ G = MQ (gbe G) (QiW (gD G) (gcy G) (gA G) (gad G) (fun r X1 M1 K1 => r = 1 ∧ IV (gsa G) (e + 1) v z5 X1 M1 K1 ∧ ¬ X1 118 0 = 45)) (gas G) (gs G) 11 32006 (gA G)) : GH G (WX G X M K) [(0, .ref (gad G 42)), (1, .ref (gsa G 900)), (2, .int (nI i)), (3, .int (nI a))] 0 0 521 [] := by
  have hrc : (gR G).cells = 11 := by rw [hR]
  have hrs : (gR G).slots = 32006 := by rw [hR]
  have b1 := pn_lt (gsa G) (i + 3) (m := 3) (by decide)
  have hnum := I.num
  have hv := I.lv
  have hls := I.ls (cs := [82]) (by decide)
  refine g_aload_n C dL_happens_521 1 rfl ?_
  refine g_iload_n C dL_happens_522 2 rfl ?_
  refine g_iconst C dL_happens_523 (v := 2) (by decide) ?_
  refine g_iadd C dL_happens_524 ?_
  refine g_topi (by exact nI_add i 2) ?_
  refine g_iconst C dL_happens_525 (v := 5) (by decide) ?_
  refine g_callSiW C dL_happens_526 (c_L_pick _ _ _ _ _ _ _ _ _ (i + 2) (by omega) 5 (by decide) (by decide)) tw399 tw400 tw0 tw401 rfl ⟨by decide +kernel, by decide +kernel, rfl⟩ ⟨rfl, rfl⟩ (by rw [hR]; exact ⟨Nat.le_of_ble_eq_true rfl, Nat.le_of_ble_eq_true rfl⟩) (Nat.le_of_ble_eq_true rfl) (by omega) (fun r_1 X1 M1 K1 h_2 => ?_)
  obtain ⟨rfl, hX1, hM1, hK1⟩ := h_2
  subst X1 M1 K1
  refine g_if_ne C dL_happens_529 (tgt := 672) (by decide) (fun c_529 => ?_) (fun c_529 => ?_)
  · try simp only [sa_ap, si_ap, reduceIte, Nat.reduceEqDiff, up_us, lg_cmp_lt, lg_cmp_gt, lg_cmp_le, lg_cmp_ge] at c_529
    refine g_iconst C dL_happens_672 (v := 1) (by decide) ?_
    refine g_zretW C hr (by decide) hQ (by omega) (by omega) dL_happens_673 ?_
    exact ⟨rfl, I.up he, h45⟩
  · try simp only [sa_ap, si_ap, reduceIte, Nat.reduceEqDiff, up_us, lg_cmp_lt, lg_cmp_gt, lg_cmp_le, lg_cmp_ge] at c_529
    refine g_aload_n C dL_happens_532 0 rfl ?_
    refine gf_L_o C tw363 dL_happens_533 ?_
    refine g_bipush C dL_happens_536 (v := 25) (by decide) ?_
    refine g_iconst C dL_happens_538 (v := 0) (by decide) ?_
    refine g_iconst C dL_happens_539 (v := 0) (by decide) ?_
    refine g_callSiW C dL_happens_540 (c_ask_25 _ _ _ _ _ _ _ _ _ (beg_ok h45) _ _) tw1112 tw1113 tw0 tw1114 rfl ⟨by decide +kernel, by decide +kernel, rfl⟩ ⟨rfl, rfl⟩ (by rw [hR]; exact ⟨Nat.le_of_ble_eq_true rfl, Nat.le_of_ble_eq_true rfl⟩) (Nat.le_of_ble_eq_true rfl) (by omega) (fun r_3 X1 M1 K1 h_4 => ?_)
    obtain ⟨rfl, hX1, hM1, hK1⟩ := h_4
    subst X1 M1 K1
    refine g_istore C dL_happens_543 (L' := [(14, .int (X 106 0)), (0, .ref (gad G 42)), (1, .ref (gsa G 900)), (2, .int (nI i)), (3, .int (nI a))]) rfl (by rw [hL]; decide) ?_
    refine g_aload_n C dL_happens_545 1 rfl ?_
    refine gf_L_o C tw363 dL_happens_546 ?_
    refine g_bipush C dL_happens_549 (v := 16) (by decide) ?_
    refine g_aload_n C dL_happens_551 2 rfl ?_
    refine g_iload_n C dL_happens_552 3 rfl ?_
    refine g_iconst C dL_happens_553 (v := 3) (by decide) ?_
    refine g_iadd C dL_happens_554 ?_
    refine g_topi (by exact nI_add i 3) ?_
    refine g_iconst C dL_happens_555 (v := 3) (by decide) ?_
    refine g_callSiW C dL_happens_556 (c_L_pick _ _ _ _ _ _ _ _ _ (i + 3) (by omega) 3 (by decide) (by decide)) tw399 tw400 tw0 tw401 rfl ⟨by decide +kernel, by decide +kernel, rfl⟩ ⟨rfl, rfl⟩ (by rw [hR]; exact ⟨Nat.le_of_ble_eq_true rfl, Nat.le_of_ble_eq_true rfl⟩) (Nat.le_of_ble_eq_true rfl) (by omega) (fun r_5 X1 M1 K1 h_6 => ?_)
    obtain ⟨rfl, hX1, hM1, hK1⟩ := h_6
    subst X1 M1 K1
    refine g_iconst C dL_happens_559 (v := 0) (by decide) ?_
    refine g_callSiW C dL_happens_560 (c_ask_16 _ _ _ _ _ _ _ _ _ (nI (pn (gsa G) (i + 3) 3)) v 6 z5 5 I.okS (by decide) I.l5 (by decide) (by omega) hnum.1 (by omega) hst _) tw1112 tw1113 tw0 tw1114 rfl ⟨by decide +kernel, by decide +kernel, rfl⟩ ⟨rfl, rfl⟩ (by rw [hR]; exact ⟨Nat.le_of_ble_eq_true rfl, Nat.le_of_ble_eq_true rfl⟩) (Nat.le_of_ble_eq_true rfl) (by omega) (fun r_7 X1 M1 K1 h_8 => ?_)
    rcases h_8 with ⟨c_ok560, er_7, hX1, hM1, hK1⟩ | ⟨E9, ⟨c_no560, hE9, hX1, hM1, hK1⟩, er_7⟩
    · rw [nI_clamp (show pn (gsa G) (i + 3) 3 < 2 ^ 31 by omega)] at hX1 er_7
      subst X1 M1 K1
      obtain ⟨g1, g2, g3⟩ := rec_code b1 (by have := I.l5; omega) c_ok560
      have g4 : ¬ r_7 < 0 := by obtain ⟨mm, hm, em⟩ := undoN_pos (X 8) (X 12) (X 14 (pn (gsa G) (i + 3) 3)) 5; rw [er_7, em]; exact nI_pos (by omega)
      refine g_istore C dL_happens_563 (L' := [(15, .int r_7), (14, .int (X 106 0)), (0, .ref (gad G 42)), (1, .ref (gsa G 900)), (2, .int (nI i)), (3, .int (nI a))]) rfl (by rw [hL]; decide) ?_
      exact g_sub [2, 3, 4, 5, 1, 0] rfl (hp_7a C hst hR hL hr he I h45 i a hi ha _ _ g1 g2 g3 g4 hQ)
    · subst X1 M1 K1
      subst hE9
      obtain ⟨g1, g2⟩ := rec_no c_no560 er_7
      refine g_istore C dL_happens_563 (L' := [(15, .int r_7), (14, .int (X 106 0)), (0, .ref (gad G 42)), (1, .ref (gsa G 900)), (2, .int (nI i)), (3, .int (nI a))]) rfl (by rw [hL]; decide) ?_
      exact g_sub [2, 3, 4, 5, 1, 0] rfl (hp_7b C hst hR hL hr he I h45 i a hi ha _ g1 g2 hQ)

set_option maxHeartbeats 1000000 in
set_option maxRecDepth 100000 in
theorem hp_8 {G : MC} (C : Cx G cL_happens yL_happens.cls) (hst : (gl G).stackTraces = false) (hR : gR G = { frames := 15, cells := 11, slots := 32006, locals := 413 }) (hL : gL G = 17) (hr : (gme G).sig.returnType = some .boolean) {e v z5 : Nat} {X M : XF} {K : KF} (he : e + 1 ≤ v + 2) (I : IV (gsa G) e v z5 X M K) (h45 : ¬ X 118 0 = 45) (i a : Nat) (hi : i < 2 ^ 18) (ha : a < 9)  (hQ : gQ G = MQ (gbe G) (QiW (gD G) (gcy G) (gA G) (gad G) (fun r X1 M1 K1 => r = 1 ∧ IV (gsa G) (e + 1) v z5 X1 M1 K1 ∧ ¬ X1 118 0 = 45)) (gas G) (gs G) 11 32006 (gA G)) : GH G (WX G X M K) [(0, .ref (gad G 42)), (1, .ref (gsa G 900)), (2, .int (nI i)), (3, .int (nI a))] 0 0 674 [] := by
  have hrc : (gR G).cells = 11 := by rw [hR]
  have hrs : (gR G).slots = 32006 := by rw [hR]
  have b1 := pn_lt (gsa G) (i + 2) (m := 2) (by decide)
  have b2 := pn_lt (gsa G) (i + 4) (m := 400) (by decide)
  have b3 := pn_lt (gsa G) (i + 4) (m := 21) (by decide)
  refine g_aload_n C dL_happens_674 0 rfl ?_
  refine gf_L_o C tw363 dL_happens_675 ?_
  refine g_bipush C dL_happens_678 (v := 18) (by decide) ?_
  refine g_aload_n C dL_happens_680 1 rfl ?_
  refine g_iload_n C dL_happens_681 2 rfl ?_
  refine g_iconst C dL_happens_682 (v := 2) (by decide) ?_
  refine g_iadd C dL_happens_683 ?_
  refine g_topi (by exact nI_add i 2) ?_
  refine g_iconst C dL_happens_684 (v := 2) (by decide) ?_
  refine g_callSiW C dL_happens_685 (c_L_pick _ _ _ _ _ _ _ _ _ (i + 2) (by omega) 2 (by decide) (by decide)) tw399 tw400 tw0 tw401 rfl ⟨by decide +kernel, by decide +kernel, rfl⟩ ⟨rfl, rfl⟩ (by rw [hR]; exact ⟨Nat.le_of_ble_eq_true rfl, Nat.le_of_ble_eq_true rfl⟩) (Nat.le_of_ble_eq_true rfl) (by omega) (fun r_1 X1 M1 K1 h_2 => ?_)
  obtain ⟨rfl, hX1, hM1, hK1⟩ := h_2
  subst X1 M1 K1
  refine g_aload_n C dL_happens_688 1 rfl ?_
  refine g_iload_n C dL_happens_689 2 rfl ?_
  refine g_iconst C dL_happens_690 (v := 3) (by decide) ?_
  refine g_iadd C dL_happens_691 ?_
  refine g_topi (by exact nI_add i 3) ?_
  refine g_iconst C dL_happens_692 (v := 5) (by decide) ?_
  refine g_callSiW C dL_happens_693 (c_L_pick _ _ _ _ _ _ _ _ _ (i + 3) (by omega) 5 (by decide) (by decide)) tw399 tw400 tw0 tw401 rfl ⟨by decide +kernel, by decide +kernel, rfl⟩ ⟨rfl, rfl⟩ (by rw [hR]; exact ⟨Nat.le_of_ble_eq_true rfl, Nat.le_of_ble_eq_true rfl⟩) (Nat.le_of_ble_eq_true rfl) (by omega) (fun r_3 X1 M1 K1 h_4 => ?_)
  obtain ⟨rfl, hX1, hM1, hK1⟩ := h_4
  subst X1 M1 K1
  refine g_if_ne C dL_happens_696 (tgt := 716) (by decide) (fun c_696 => ?_) (fun c_696 => ?_)
  · try simp only [sa_ap, si_ap, reduceIte, Nat.reduceEqDiff, up_us, lg_cmp_lt, lg_cmp_gt, lg_cmp_le, lg_cmp_ge] at c_696
    refine g_aload_n C dL_happens_716 1 rfl ?_
    refine g_iload_n C dL_happens_717 2 rfl ?_
    refine g_iconst C dL_happens_718 (v := 4) (by decide) ?_
    refine g_iadd C dL_happens_719 ?_
    refine g_topi (by exact nI_add i 4) ?_
    refine g_bipush C dL_happens_720 (v := 21) (by decide) ?_
    refine g_callSiW C dL_happens_722 (c_L_pick _ _ _ _ _ _ _ _ _ (i + 4) (by omega) 21 (by decide) (by decide)) tw399 tw400 tw0 tw401 rfl ⟨by decide +kernel, by decide +kernel, rfl⟩ ⟨rfl, rfl⟩ (by rw [hR]; exact ⟨Nat.le_of_ble_eq_true rfl, Nat.le_of_ble_eq_true rfl⟩) (Nat.le_of_ble_eq_true rfl) (by omega) (fun r_5 X1 M1 K1 h_6 => ?_)
    obtain ⟨rfl, hX1, hM1, hK1⟩ := h_6
    subst X1 M1 K1
    refine g_callSiW C dL_happens_725 (c_ask_18 _ _ _ _ _ _ _ _ _ (pn (gsa G) (i + 2) 2) b1 (nI (pn (gsa G) (i + 4) 21)) (track_b b1 b3)) tw1112 tw1113 tw0 tw1114 rfl ⟨by decide +kernel, by decide +kernel, rfl⟩ ⟨rfl, rfl⟩ (by rw [hR]; exact ⟨Nat.le_of_ble_eq_true rfl, Nat.le_of_ble_eq_true rfl⟩) (Nat.le_of_ble_eq_true rfl) (by omega) (fun r_7 X1 M1 K1 h_8 => ?_)
    obtain ⟨er_7, hX1, hM1, hK1⟩ := h_8
    subst X1 M1 K1
    try simp only [sa_ap, si_ap, reduceIte, Nat.reduceEqDiff] at er_7
    refine g_pop C dL_happens_728 rfl ?_
    refine g_iconst C dL_happens_729 (v := 1) (by decide) ?_
    refine g_zretW C hr (by decide) hQ (by omega) (by omega) dL_happens_730 ?_
    exact ⟨rfl, (I.irr (Or.inr (Or.inr (Or.inr rfl))) _).up he, h45⟩
  · try simp only [sa_ap, si_ap, reduceIte, Nat.reduceEqDiff, up_us, lg_cmp_lt, lg_cmp_gt, lg_cmp_le, lg_cmp_ge] at c_696
    refine g_aload_n C dL_happens_699 1 rfl ?_
    refine g_iload_n C dL_happens_700 2 rfl ?_
    refine g_iconst C dL_happens_701 (v := 4) (by decide) ?_
    refine g_iadd C dL_happens_702 ?_
    refine g_topi (by exact nI_add i 4) ?_
    refine g_sipush C dL_happens_703 (v := 400) (by decide) ?_
    refine g_callSiW C dL_happens_706 (c_L_pick _ _ _ _ _ _ _ _ _ (i + 4) (by omega) 400 (by decide) (by decide)) tw399 tw400 tw0 tw401 rfl ⟨by decide +kernel, by decide +kernel, rfl⟩ ⟨rfl, rfl⟩ (by rw [hR]; exact ⟨Nat.le_of_ble_eq_true rfl, Nat.le_of_ble_eq_true rfl⟩) (Nat.le_of_ble_eq_true rfl) (by omega) (fun r_9 X1 M1 K1 h_10 => ?_)
    obtain ⟨rfl, hX1, hM1, hK1⟩ := h_10
    subst X1 M1 K1
    refine g_sipush C dL_happens_709 (v := 200) (by decide) ?_
    refine g_isub C dL_happens_712 ?_
    refine g_goto C dL_happens_713 (tgt := 725) (by decide) ?_
    refine g_callSiW C dL_happens_725 (c_ask_18 _ _ _ _ _ _ _ _ _ (pn (gsa G) (i + 2) 2) b1 (nI (pn (gsa G) (i + 4) 400) - 200) (track_a b1 b2)) tw1112 tw1113 tw0 tw1114 rfl ⟨by decide +kernel, by decide +kernel, rfl⟩ ⟨rfl, rfl⟩ (by rw [hR]; exact ⟨Nat.le_of_ble_eq_true rfl, Nat.le_of_ble_eq_true rfl⟩) (Nat.le_of_ble_eq_true rfl) (by omega) (fun r_11 X1 M1 K1 h_12 => ?_)
    obtain ⟨er_11, hX1, hM1, hK1⟩ := h_12
    subst X1 M1 K1
    try simp only [sa_ap, si_ap, reduceIte, Nat.reduceEqDiff] at er_11
    refine g_pop C dL_happens_728 rfl ?_
    refine g_iconst C dL_happens_729 (v := 1) (by decide) ?_
    refine g_zretW C hr (by decide) hQ (by omega) (by omega) dL_happens_730 ?_
    exact ⟨rfl, (I.irr (Or.inr (Or.inr (Or.inr rfl))) _).up he, h45⟩

set_option maxHeartbeats 1000000 in
set_option maxRecDepth 100000 in
theorem hp_9 {G : MC} (C : Cx G cL_happens yL_happens.cls) (hst : (gl G).stackTraces = false) (hR : gR G = { frames := 15, cells := 11, slots := 32006, locals := 413 }) (hL : gL G = 17) (hr : (gme G).sig.returnType = some .boolean) {e v z5 : Nat} {X M : XF} {K : KF} (he : e + 1 ≤ v + 2) (I : IV (gsa G) e v z5 X M K) (h45 : ¬ X 118 0 = 45) (i a : Nat) (hi : i < 2 ^ 18) (ha : a < 9)  (hQ : gQ G = MQ (gbe G) (QiW (gD G) (gcy G) (gA G) (gad G) (fun r X1 M1 K1 => r = 1 ∧ IV (gsa G) (e + 1) v z5 X1 M1 K1 ∧ ¬ X1 118 0 = 45)) (gas G) (gs G) 11 32006 (gA G)) : GH G (WX G X M K) [(0, .ref (gad G 42)), (1, .ref (gsa G 900)), (2, .int (nI i)), (3, .int (nI a))] 0 0 731 [] := by
  have hrc : (gR G).cells = 11 := by rw [hR]
  have hrs : (gR G).slots = 32006 := by rw [hR]
  have hnum := I.num
  have hv := I.lv
  have hls := I.ls (cs := (sb_A X).2) (sb_len X)
  refine g_aload_n C dL_happens_731 1 rfl ?_
  refine g_iload_n C dL_happens_732 2 rfl ?_
  refine g_iconst C dL_happens_733 (v := 2) (by decide) ?_
  refine g_iadd C dL_happens_734 ?_
  refine g_topi (by exact nI_add i 2) ?_
  refine g_bipush C dL_happens_735 (v := 12) (by decide) ?_
  refine g_callSiW C dL_happens_737 (c_L_pick _ _ _ _ _ _ _ _ _ (i + 2) (by omega) 12 (by decide) (by decide)) tw399 tw400 tw0 tw401 rfl ⟨by decide +kernel, by decide +kernel, rfl⟩ ⟨rfl, rfl⟩ (by rw [hR]; exact ⟨Nat.le_of_ble_eq_true rfl, Nat.le_of_ble_eq_true rfl⟩) (Nat.le_of_ble_eq_true rfl) (by omega) (fun r_1 X1 M1 K1 h_2 => ?_)
  obtain ⟨rfl, hX1, hM1, hK1⟩ := h_2
  subst X1 M1 K1
  refine g_if_ne C dL_happens_740 (tgt := 825) (by decide) (fun c_740 => ?_) (fun c_740 => ?_)
  · try simp only [sa_ap, si_ap, reduceIte, Nat.reduceEqDiff, up_us, lg_cmp_lt, lg_cmp_gt, lg_cmp_le, lg_cmp_ge] at c_740
    refine g_iconst C dL_happens_825 (v := 1) (by decide) ?_
    refine g_zretW C hr (by decide) hQ (by omega) (by omega) dL_happens_826 ?_
    first | exact ⟨rfl, I.up he, h45⟩ | exact ⟨rfl, I.scrub he, sb_45 h45⟩
  · try simp only [sa_ap, si_ap, reduceIte, Nat.reduceEqDiff, up_us, lg_cmp_lt, lg_cmp_gt, lg_cmp_le, lg_cmp_ge] at c_740
    refine g_aload_n C dL_happens_743 0 rfl ?_
    refine gf_L_o C tw363 dL_happens_744 ?_
    refine g_callViW C dL_happens_747 (c_X10_state _ _ _ _ _ _ _ _ _ I.ch118) tw1141 tw1142 tw1143 tw1 tw1144 (rv_X10 C) rfl ⟨by decide +kernel, by decide +kernel, rfl⟩ ⟨rfl, rfl⟩ (by rw [hR]; exact ⟨Nat.le_of_ble_eq_true rfl, Nat.le_of_ble_eq_true rfl⟩) (Nat.le_of_ble_eq_true rfl) (by omega) (fun r_3 X1 M1 K1 h_4 => ?_)
    obtain ⟨rfl, hX1, hM1, hK1⟩ := h_4
    subst X1 M1 K1
    refine g_bipush C dL_happens_750 (v := 99) (by decide) ?_
    refine g_icmp_eq C dL_happens_752 (tgt := 767) (by decide) (fun c_752 => ?_) (fun c_752 => ?_)
    · try simp only [sa_ap, si_ap, reduceIte, Nat.reduceEqDiff, up_us, lg_cmp_lt, lg_cmp_gt, lg_cmp_le, lg_cmp_ge] at c_752
      have hic : ¬ md_ic (X 118 0) = 0 := by rw [c_752]; decide
      refine g_iconst C dL_happens_767 (v := 1) (by decide) ?_
      refine g_goto C dL_happens_768 (tgt := 772) (by decide) ?_
      refine g_istore C dL_happens_772 (L' := [(14, .int 1), (0, .ref (gad G 42)), (1, .ref (gsa G 900)), (2, .int (nI i)), (3, .int (nI a))]) rfl (by rw [hL]; decide) ?_
      refine g_aload_n C dL_happens_774 1 rfl ?_
      refine gf_L_o C tw363 dL_happens_775 ?_
      refine g_callViW C dL_happens_778 (c_X10_scrub _ _ _ _ _ _ _ _ _ v (by omega) I.x1 hnum.1 (by omega)) tw1157 tw1158 tw1159 tw1 tw1160 (rv_X10 C) rfl ⟨by decide +kernel, by decide +kernel, rfl⟩ ⟨rfl, rfl⟩ (by rw [hR]; exact ⟨Nat.le_of_ble_eq_true rfl, Nat.le_of_ble_eq_true rfl⟩) (Nat.le_of_ble_eq_true rfl) (by omega) (fun r_5 X1 M1 K1 h_6 => ?_)
      obtain ⟨er_5, hX1, hM1, hK1⟩ := h_6
      subst X1 M1 K1
      try simp only [sa_ap, si_ap, reduceIte, Nat.reduceEqDiff] at er_5
      have er := er_5
      refine g_iload C dL_happens_781 0 rfl ?_
      refine g_icmp_ne C dL_happens_783 (tgt := 823) (by decide) (fun c_783 => absurd c_783 (not_not_intro (by rw [er]; first | exact if_pos hic | exact if_neg hic))) (fun c_783 => ?_)
      refine g_iload C dL_happens_786 0 rfl ?_
      refine g_if_eq C dL_happens_788 (tgt := 819) (by decide) (fun c_788 => absurd c_788 (by decide)) (fun c_788 => ?_)
      refine g_aload_n C dL_happens_791 1 rfl ?_
      refine gf_L_o C tw363 dL_happens_792 ?_
      have ez : sb_A X = (pch 115 (si (si X 111 99) 112 (-1)), [83]) := if_neg hic
      refine g_callViW C dL_happens_795 (c_X10_state _ _ _ _ _ _ _ _ _ (by rw [ez]; exact (show isCh 115 from ⟨by decide, by decide⟩))) tw1141 tw1142 tw1143 tw1 tw1144 (rv_X10 C) rfl ⟨by decide +kernel, by decide +kernel, rfl⟩ ⟨rfl, rfl⟩ (by rw [hR]; exact ⟨Nat.le_of_ble_eq_true rfl, Nat.le_of_ble_eq_true rfl⟩) (Nat.le_of_ble_eq_true rfl) (by omega) (fun r_7 X1 M1 K1 h_8 => ?_)
      obtain ⟨rfl, hX1, hM1, hK1⟩ := h_8
      subst X1 M1 K1
      refine g_topi (y := 115) (by rw [ez]; rfl) ?_
      refine g_bipush C dL_happens_798 (v := 115) (by decide) ?_
      refine g_icmp_ne C dL_happens_800 (tgt := 823) (by decide) (fun c_800 => absurd c_800 (by decide)) (fun c_800 => ?_)
      refine g_aload_n C dL_happens_803 1 rfl ?_
      refine gf_L_o C tw363 dL_happens_804 ?_
      refine g_bipush C dL_happens_807 (v := 27) (by decide) ?_
      refine g_iconst C dL_happens_809 (v := 0) (by decide) ?_
      refine g_iconst C dL_happens_810 (v := 0) (by decide) ?_
      refine g_callSiW C dL_happens_811 (c_ask_27 _ _ _ _ _ _ _ _ _ (by rw [ez]; exact (show isCh 99 from ⟨by decide, by decide⟩)) (by rw [ez]; exact (show xk_cau 115 = 0 by decide)) _ _) tw1112 tw1113 tw0 tw1114 rfl ⟨by decide +kernel, by decide +kernel, rfl⟩ ⟨rfl, rfl⟩ (by rw [hR]; exact ⟨Nat.le_of_ble_eq_true rfl, Nat.le_of_ble_eq_true rfl⟩) (Nat.le_of_ble_eq_true rfl) (by omega) (fun r_9 X1 M1 K1 h_10 => ?_)
      obtain ⟨rfl, hX1, hM1, hK1⟩ := h_10
      subst X1 M1 K1
      refine g_topi (y := 99) (by rw [ez]; rfl) ?_
      refine g_bipush C dL_happens_814 (v := 99) (by decide) ?_
      refine g_icmp_ne C dL_happens_816 (tgt := 823) (by decide) (fun c_816 => absurd c_816 (by decide)) (fun c_816 => ?_)
      refine g_iconst C dL_happens_819 (v := 1) (by decide) ?_
      refine g_goto C dL_happens_820 (tgt := 824) (by decide) ?_
      refine g_zretW C hr (by decide) hQ (by omega) (by omega) dL_happens_824 ?_
      first | exact ⟨rfl, I.up he, h45⟩ | exact ⟨rfl, I.scrub he, sb_45 h45⟩
    · try simp only [sa_ap, si_ap, reduceIte, Nat.reduceEqDiff, up_us, lg_cmp_lt, lg_cmp_gt, lg_cmp_le, lg_cmp_ge] at c_752
      refine g_aload_n C dL_happens_755 0 rfl ?_
      refine gf_L_o C tw363 dL_happens_756 ?_
      refine g_callViW C dL_happens_759 (c_X10_state _ _ _ _ _ _ _ _ _ I.ch118) tw1141 tw1142 tw1143 tw1 tw1144 (rv_X10 C) rfl ⟨by decide +kernel, by decide +kernel, rfl⟩ ⟨rfl, rfl⟩ (by rw [hR]; exact ⟨Nat.le_of_ble_eq_true rfl, Nat.le_of_ble_eq_true rfl⟩) (Nat.le_of_ble_eq_true rfl) (by omega) (fun r_11 X1 M1 K1 h_12 => ?_)
      obtain ⟨rfl, hX1, hM1, hK1⟩ := h_12
      subst X1 M1 K1
      refine g_bipush C dL_happens_762 (v := 104) (by decide) ?_
      refine g_icmp_ne C dL_happens_764 (tgt := 771) (by decide) (fun c_764 => ?_) (fun c_764 => ?_)
      · try simp only [sa_ap, si_ap, reduceIte, Nat.reduceEqDiff, up_us, lg_cmp_lt, lg_cmp_gt, lg_cmp_le, lg_cmp_ge] at c_764
        have hic : md_ic (X 118 0) = 0 := by unfold md_ic; rw [if_neg c_752, if_neg c_764]
        refine g_iconst C dL_happens_771 (v := 0) (by decide) ?_
        refine g_istore C dL_happens_772 (L' := [(14, .int 0), (0, .ref (gad G 42)), (1, .ref (gsa G 900)), (2, .int (nI i)), (3, .int (nI a))]) rfl (by rw [hL]; decide) ?_
        refine g_aload_n C dL_happens_774 1 rfl ?_
        refine gf_L_o C tw363 dL_happens_775 ?_
        refine g_callViW C dL_happens_778 (c_X10_scrub _ _ _ _ _ _ _ _ _ v (by omega) I.x1 hnum.1 (by omega)) tw1157 tw1158 tw1159 tw1 tw1160 (rv_X10 C) rfl ⟨by decide +kernel, by decide +kernel, rfl⟩ ⟨rfl, rfl⟩ (by rw [hR]; exact ⟨Nat.le_of_ble_eq_true rfl, Nat.le_of_ble_eq_true rfl⟩) (Nat.le_of_ble_eq_true rfl) (by omega) (fun r_13 X1 M1 K1 h_14 => ?_)
        obtain ⟨er_13, hX1, hM1, hK1⟩ := h_14
        subst X1 M1 K1
        try simp only [sa_ap, si_ap, reduceIte, Nat.reduceEqDiff] at er_13
        have er := er_13
        refine g_iload C dL_happens_781 0 rfl ?_
        refine g_icmp_ne C dL_happens_783 (tgt := 823) (by decide) (fun c_783 => absurd c_783 (not_not_intro (by rw [er]; first | exact if_pos hic | exact if_neg hic))) (fun c_783 => ?_)
        refine g_iload C dL_happens_786 0 rfl ?_
        refine g_if_eq C dL_happens_788 (tgt := 819) (by decide) (fun c_788 => ?_) (fun c_788 => absurd (by decide) c_788)
        refine g_iconst C dL_happens_819 (v := 1) (by decide) ?_
        refine g_goto C dL_happens_820 (tgt := 824) (by decide) ?_
        refine g_zretW C hr (by decide) hQ (by omega) (by omega) dL_happens_824 ?_
        first | exact ⟨rfl, I.up he, h45⟩ | exact ⟨rfl, I.scrub he, sb_45 h45⟩
      · try simp only [sa_ap, si_ap, reduceIte, Nat.reduceEqDiff, up_us, lg_cmp_lt, lg_cmp_gt, lg_cmp_le, lg_cmp_ge] at c_764
        have hic : ¬ md_ic (X 118 0) = 0 := by rw [c_764]; decide
        refine g_iconst C dL_happens_767 (v := 1) (by decide) ?_
        refine g_goto C dL_happens_768 (tgt := 772) (by decide) ?_
        refine g_istore C dL_happens_772 (L' := [(14, .int 1), (0, .ref (gad G 42)), (1, .ref (gsa G 900)), (2, .int (nI i)), (3, .int (nI a))]) rfl (by rw [hL]; decide) ?_
        refine g_aload_n C dL_happens_774 1 rfl ?_
        refine gf_L_o C tw363 dL_happens_775 ?_
        refine g_callViW C dL_happens_778 (c_X10_scrub _ _ _ _ _ _ _ _ _ v (by omega) I.x1 hnum.1 (by omega)) tw1157 tw1158 tw1159 tw1 tw1160 (rv_X10 C) rfl ⟨by decide +kernel, by decide +kernel, rfl⟩ ⟨rfl, rfl⟩ (by rw [hR]; exact ⟨Nat.le_of_ble_eq_true rfl, Nat.le_of_ble_eq_true rfl⟩) (Nat.le_of_ble_eq_true rfl) (by omega) (fun r_15 X1 M1 K1 h_16 => ?_)
        obtain ⟨er_15, hX1, hM1, hK1⟩ := h_16
        subst X1 M1 K1
        try simp only [sa_ap, si_ap, reduceIte, Nat.reduceEqDiff] at er_15
        have er := er_15
        refine g_iload C dL_happens_781 0 rfl ?_
        refine g_icmp_ne C dL_happens_783 (tgt := 823) (by decide) (fun c_783 => absurd c_783 (not_not_intro (by rw [er]; first | exact if_pos hic | exact if_neg hic))) (fun c_783 => ?_)
        refine g_iload C dL_happens_786 0 rfl ?_
        refine g_if_eq C dL_happens_788 (tgt := 819) (by decide) (fun c_788 => absurd c_788 (by decide)) (fun c_788 => ?_)
        refine g_aload_n C dL_happens_791 1 rfl ?_
        refine gf_L_o C tw363 dL_happens_792 ?_
        have ez : sb_A X = (pch 115 (si (si X 111 99) 112 (-1)), [83]) := if_neg hic
        refine g_callViW C dL_happens_795 (c_X10_state _ _ _ _ _ _ _ _ _ (by rw [ez]; exact (show isCh 115 from ⟨by decide, by decide⟩))) tw1141 tw1142 tw1143 tw1 tw1144 (rv_X10 C) rfl ⟨by decide +kernel, by decide +kernel, rfl⟩ ⟨rfl, rfl⟩ (by rw [hR]; exact ⟨Nat.le_of_ble_eq_true rfl, Nat.le_of_ble_eq_true rfl⟩) (Nat.le_of_ble_eq_true rfl) (by omega) (fun r_17 X1 M1 K1 h_18 => ?_)
        obtain ⟨rfl, hX1, hM1, hK1⟩ := h_18
        subst X1 M1 K1
        refine g_topi (y := 115) (by rw [ez]; rfl) ?_
        refine g_bipush C dL_happens_798 (v := 115) (by decide) ?_
        refine g_icmp_ne C dL_happens_800 (tgt := 823) (by decide) (fun c_800 => absurd c_800 (by decide)) (fun c_800 => ?_)
        refine g_aload_n C dL_happens_803 1 rfl ?_
        refine gf_L_o C tw363 dL_happens_804 ?_
        refine g_bipush C dL_happens_807 (v := 27) (by decide) ?_
        refine g_iconst C dL_happens_809 (v := 0) (by decide) ?_
        refine g_iconst C dL_happens_810 (v := 0) (by decide) ?_
        refine g_callSiW C dL_happens_811 (c_ask_27 _ _ _ _ _ _ _ _ _ (by rw [ez]; exact (show isCh 99 from ⟨by decide, by decide⟩)) (by rw [ez]; exact (show xk_cau 115 = 0 by decide)) _ _) tw1112 tw1113 tw0 tw1114 rfl ⟨by decide +kernel, by decide +kernel, rfl⟩ ⟨rfl, rfl⟩ (by rw [hR]; exact ⟨Nat.le_of_ble_eq_true rfl, Nat.le_of_ble_eq_true rfl⟩) (Nat.le_of_ble_eq_true rfl) (by omega) (fun r_19 X1 M1 K1 h_20 => ?_)
        obtain ⟨rfl, hX1, hM1, hK1⟩ := h_20
        subst X1 M1 K1
        refine g_topi (y := 99) (by rw [ez]; rfl) ?_
        refine g_bipush C dL_happens_814 (v := 99) (by decide) ?_
        refine g_icmp_ne C dL_happens_816 (tgt := 823) (by decide) (fun c_816 => absurd c_816 (by decide)) (fun c_816 => ?_)
        refine g_iconst C dL_happens_819 (v := 1) (by decide) ?_
        refine g_goto C dL_happens_820 (tgt := 824) (by decide) ?_
        refine g_zretW C hr (by decide) hQ (by omega) (by omega) dL_happens_824 ?_
        first | exact ⟨rfl, I.up he, h45⟩ | exact ⟨rfl, I.scrub he, sb_45 h45⟩

set_option maxHeartbeats 1000000 in
set_option maxRecDepth 100000 in
theorem hp_d {G : MC} (C : Cx G cL_happens yL_happens.cls) (hst : (gl G).stackTraces = false) (hR : gR G = { frames := 15, cells := 11, slots := 32006, locals := 413 }) (hL : gL G = 17) (hr : (gme G).sig.returnType = some .boolean) {e v z5 : Nat} {X M : XF} {K : KF} (he : e + 1 ≤ v + 2) (I : IV (gsa G) e v z5 X M K) (h45 : ¬ X 118 0 = 45) (i a : Nat) (hi : i < 2 ^ 18) (ha : a < 9)  (hQ : gQ G = MQ (gbe G) (QiW (gD G) (gcy G) (gA G) (gad G) (fun r X1 M1 K1 => r = 1 ∧ IV (gsa G) (e + 1) v z5 X1 M1 K1 ∧ ¬ X1 118 0 = 45)) (gas G) (gs G) 11 32006 (gA G)) : GH G (WX G X M K) [(0, .ref (gad G 42)), (1, .ref (gsa G 900)), (2, .int (nI i)), (3, .int (nI a))] 0 0 827 [] := by
  have hrc : (gR G).cells = 11 := by rw [hR]
  have hrs : (gR G).slots = 32006 := by rw [hR]
  refine g_iconst C dL_happens_827 (v := 1) (by decide) ?_
  refine g_zretW C hr (by decide) hQ (by omega) (by omega) dL_happens_828 ?_
  exact ⟨rfl, I.up he, h45⟩

set_option maxHeartbeats 1000000 in
set_option maxRecDepth 100000 in
theorem c_L_happens (l : Launch) (D : va_G) (cy : Nat → ClassId) (A : Nat → Prop) (ad sad : Nat → Nat) (X M : XF) (K : KF) (i : Nat) (hi : i < 2 ^ 17) (e v z5 : Nat) (I : IV sad e v z5 X M K) (h45 : ¬ X 118 0 = 45) (he : e + 1 ≤ v + 2) (hst : l.stackTraces = false) : Met l yL_happens (wsA yL_happens cL_happens 17 (some .boolean)) ({ frames := 15, cells := 11, slots := 32006, locals := 413 }) (PcW D cy A ad sad X M K [.ref (ad 42), .ref (sad 900), .int (nI i)]) (QiW D cy A ad (fun r X1 M1 K1 => r = 1 ∧ IV sad (e + 1) v z5 X1 M1 K1 ∧ ¬ X1 118 0 = 45)) 11 32006 A := by
  refine met_ofW [(0, .ref (ad 42)), (1, .ref (sad 900)), (2, .int (nI i))] (by decide +kernel) (Nat.le_of_ble_eq_true rfl) rfl ?_
  intro G C hl hR hL hD hcy hA had hsa hr hQ
  subst hD hcy hA had hsa hl
  refine g_aload_n C dL_happens_0 1 rfl ?_
  refine g_iload_n C dL_happens_1 2 rfl ?_
  refine g_iconst C dL_happens_2 (v := 1) (by decide) ?_
  refine g_iadd C dL_happens_3 ?_
  refine g_topi (by exact nI_1 i) ?_
  refine g_bipush C dL_happens_4 (v := 9) (by decide) ?_
  refine g_callSiW C dL_happens_6 (c_L_pick _ _ _ _ _ _ _ _ _ (i + 1) (by omega) 9 (by decide) (by decide)) tw399 tw400 tw0 tw401 rfl ⟨by decide +kernel, by decide +kernel, rfl⟩ ⟨rfl, rfl⟩ (by rw [hR]; exact ⟨Nat.le_of_ble_eq_true rfl, Nat.le_of_ble_eq_true rfl⟩) (Nat.le_of_ble_eq_true rfl) (by omega) (fun r_1 X1 M1 K1 h_2 => ?_)
  obtain ⟨rfl, hX1, hM1, hK1⟩ := h_2
  subst X1 M1 K1
  refine g_istore_n C dL_happens_9 (L' := [(3, .int (nI (pn (gsa G) (i + 1) 9))), (0, .ref (gad G 42)), (1, .ref (gsa G 900)), (2, .int (nI i))]) rfl (by rw [hL]; decide) ?_
  refine g_aload_n C dL_happens_10 2 rfl ?_
  refine g_iload_n C dL_happens_11 3 rfl ?_
  refine g_bipush C dL_happens_12 (v := 12) (by decide) ?_
  refine g_callSiW C dL_happens_14 (c_L_pick _ _ _ _ _ _ _ _ _ (i) (by omega) 12 (by decide) (by decide)) tw399 tw400 tw0 tw401 rfl ⟨by decide +kernel, by decide +kernel, rfl⟩ ⟨rfl, rfl⟩ (by rw [hR]; exact ⟨Nat.le_of_ble_eq_true rfl, Nat.le_of_ble_eq_true rfl⟩) (Nat.le_of_ble_eq_true rfl) (by omega) (fun r_3 X1 M1 K1 h_4 => ?_)
  obtain ⟨rfl, hX1, hM1, hK1⟩ := h_4
  subst X1 M1 K1
  obtain ⟨w, hw, ew⟩ : ∃ w, w < 12 ∧ pn (gsa G) i 12 = w := ⟨_, pn_lt _ _ (by decide), rfl⟩
  rw [ew]
  match w, hw with
  | 0, _ =>
    refine g_tin C dL_happens_17 (by decide) (by decide) (off := 55) (by decide) (tgt := 72) (by decide) ?_
    exact g_sub [1, 2, 3, 0] rfl (hp_0 C hst hR hL hr he I h45 i (pn (gsa G) (i + 1) 9) (by omega) (pn_lt _ _ (by decide)) hQ)
  | 1, _ =>
    refine g_tin C dL_happens_17 (by decide) (by decide) (off := 117) (by decide) (tgt := 134) (by decide) ?_
    exact g_sub [1, 2, 3, 0] rfl (hp_1 C hst hR hL hr he I h45 i (pn (gsa G) (i + 1) 9) (by omega) (pn_lt _ _ (by decide)) hQ)
  | 2, _ =>
    refine g_tin C dL_happens_17 (by decide) (by decide) (off := 168) (by decide) (tgt := 185) (by decide) ?_
    exact g_sub [1, 2, 3, 0] rfl (hp_2 C hst hR hL hr he I h45 i (pn (gsa G) (i + 1) 9) (by omega) (pn_lt _ _ (by decide)) hQ)
  | 3, _ =>
    refine g_tin C dL_happens_17 (by decide) (by decide) (off := 222) (by decide) (tgt := 239) (by decide) ?_
    exact g_sub [1, 2, 3, 0] rfl (hp_3 C hst hR hL hr he I h45 i (pn (gsa G) (i + 1) 9) (by omega) (pn_lt _ _ (by decide)) hQ)
  | 4, _ =>
    refine g_tin C dL_happens_17 (by decide) (by decide) (off := 337) (by decide) (tgt := 354) (by decide) ?_
    exact g_sub [1, 2, 3, 0] rfl (hp_4 C hst hR hL hr he I h45 i (pn (gsa G) (i + 1) 9) (by omega) (pn_lt _ _ (by decide)) hQ)
  | 5, _ =>
    refine g_tin C dL_happens_17 (by decide) (by decide) (off := 415) (by decide) (tgt := 432) (by decide) ?_
    exact g_sub [1, 2, 3, 0] rfl (hp_5 C hst hR hL hr he I h45 i (pn (gsa G) (i + 1) 9) (by omega) (pn_lt _ _ (by decide)) hQ)
  | 6, _ =>
    refine g_tin C dL_happens_17 (by decide) (by decide) (off := 495) (by decide) (tgt := 512) (by decide) ?_
    exact g_sub [1, 2, 3, 0] rfl (hp_6 C hst hR hL hr he I h45 i (pn (gsa G) (i + 1) 9) (by omega) (pn_lt _ _ (by decide)) hQ)
  | 7, _ =>
    refine g_tin C dL_happens_17 (by decide) (by decide) (off := 504) (by decide) (tgt := 521) (by decide) ?_
    exact g_sub [1, 2, 3, 0] rfl (hp_7 C hst hR hL hr he I h45 i (pn (gsa G) (i + 1) 9) (by omega) (pn_lt _ _ (by decide)) hQ)
  | 8, _ =>
    refine g_tin C dL_happens_17 (by decide) (by decide) (off := 657) (by decide) (tgt := 674) (by decide) ?_
    exact g_sub [1, 2, 3, 0] rfl (hp_8 C hst hR hL hr he I h45 i (pn (gsa G) (i + 1) 9) (by omega) (pn_lt _ _ (by decide)) hQ)
  | 9, _ =>
    refine g_tin C dL_happens_17 (by decide) (by decide) (off := 714) (by decide) (tgt := 731) (by decide) ?_
    exact g_sub [1, 2, 3, 0] rfl (hp_9 C hst hR hL hr he I h45 i (pn (gsa G) (i + 1) 9) (by omega) (pn_lt _ _ (by decide)) hQ)
  | 10, _ =>
    refine g_tout C dL_happens_17 (by decide) (tgt := 827) (by decide) ?_
    exact g_sub [1, 2, 3, 0] rfl (hp_d C hst hR hL hr he I h45 i (pn (gsa G) (i + 1) 9) (by omega) (pn_lt _ _ (by decide)) hQ)
  | 11, _ =>
    refine g_tout C dL_happens_17 (by decide) (tgt := 827) (by decide) ?_
    exact g_sub [1, 2, 3, 0] rfl (hp_d C hst hR hL hr he I h45 i (pn (gsa G) (i + 1) 9) (by omega) (pn_lt _ _ (by decide)) hQ)
  | n + 12, h => exact absurd h (by omega)

