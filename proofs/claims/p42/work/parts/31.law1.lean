/-! the law: what it asks of the range -/

set_option maxHeartbeats 400000 in
set_option maxRecDepth 100000 in
/-- isWaivedAt.isWaivedAt -/
theorem c_L_isWaivedAt (l : Launch) (D : va_G) (cy : Nat → ClassId) (A : Nat → Prop) (ad sad : Nat → Nat) (X M : XF) (K : KF) (j : Nat) (hj : j < 6) (p2 : Int32) : Met l yL_isWaivedAt (wsA yL_isWaivedAt cL_isWaivedAt 3 (some .boolean)) ({ frames := 0, cells := 0, slots := 0, locals := 0 }) (PcW D cy A ad sad X M K [.ref (ad 42), .int (nI j), .int p2]) (QiW D cy A ad (fun r X1 M1 K1 => r = wv_l M j p2 ∧ X1 = X ∧ M1 = M ∧ K1 = K)) 0 0 A := by
  refine met_ofW [(0, .ref (ad 42)), (1, .int (nI j)), (2, .int p2)] (by decide +kernel) (Nat.le_of_ble_eq_true rfl) rfl ?_
  intro G C hl hR hL hD hcy hA had hsa hr hQ
  subst hD hcy hA had hsa hl
  refine g_iload_n C dL_isWaivedAt_0 2 rfl ?_
  refine g_aload_n C dL_isWaivedAt_1 0 rfl ?_
  refine gf_L_waivedTo C tw364 dL_isWaivedAt_2 ?_
  refine g_iload_n C dL_isWaivedAt_5 1 rfl ?_
  refine al_43 C (by omega) dL_isWaivedAt_6 ?_
  refine g_icmp_gt C dL_isWaivedAt_7 (tgt := 14) (by decide) (fun c_7 => ?_) (fun c_7 => ?_)
  · try simp only [sa_ap, si_ap, reduceIte, Nat.reduceEqDiff, up_us, lg_cmp_lt, lg_cmp_gt, lg_cmp_le, lg_cmp_ge] at c_7
    refine g_iconst C dL_isWaivedAt_14 (v := 0) (by decide) ?_
    refine g_zretW C hr (by decide) hQ (Nat.le_refl _) (Nat.le_refl _) dL_isWaivedAt_15 ?_
    exact ⟨(by first | with_reducible rfl | (first | with_reducible rfl | (simp only [sa_ap, si_ap, si_sa, sa_sa, sa_3, sa_4, sa_5, sa_6, sa_7, sa_8, wv_l, up_us, up_up, c_7]; done) | (simp [sa_ap, si_ap, si_sa, sa_sa, sa_3, sa_4, sa_5, sa_6, sa_7, sa_8, wv_l, up_us, up_up, c_7]; done))), (by first | with_reducible rfl | (first | with_reducible rfl | (simp only [sa_ap, si_ap, si_sa, sa_sa, sa_3, sa_4, sa_5, sa_6, sa_7, sa_8, wv_l, up_us, up_up, c_7]; done) | (simp [sa_ap, si_ap, si_sa, sa_sa, sa_3, sa_4, sa_5, sa_6, sa_7, sa_8, wv_l, up_us, up_up, c_7]; done))), rfl, rfl⟩
  · try simp only [sa_ap, si_ap, reduceIte, Nat.reduceEqDiff, up_us, lg_cmp_lt, lg_cmp_gt, lg_cmp_le, lg_cmp_ge] at c_7
    refine g_iconst C dL_isWaivedAt_10 (v := 1) (by decide) ?_
    refine g_goto C dL_isWaivedAt_11 (tgt := 15) (by decide) ?_
    refine g_zretW C hr (by decide) hQ (Nat.le_refl _) (Nat.le_refl _) dL_isWaivedAt_15 ?_
    exact ⟨(by first | with_reducible rfl | (first | with_reducible rfl | (simp only [sa_ap, si_ap, si_sa, sa_sa, sa_3, sa_4, sa_5, sa_6, sa_7, sa_8, wv_l, up_us, up_up, c_7]; done) | (simp [sa_ap, si_ap, si_sa, sa_sa, sa_3, sa_4, sa_5, sa_6, sa_7, sa_8, wv_l, up_us, up_up, c_7]; done))), (by first | with_reducible rfl | (first | with_reducible rfl | (simp only [sa_ap, si_ap, si_sa, sa_sa, sa_3, sa_4, sa_5, sa_6, sa_7, sa_8, wv_l, up_us, up_up, c_7]; done) | (simp [sa_ap, si_ap, si_sa, sa_sa, sa_3, sa_4, sa_5, sa_6, sa_7, sa_8, wv_l, up_us, up_up, c_7]; done))), rfl, rfl⟩

set_option maxHeartbeats 1000000 in
set_option maxRecDepth 100000 in
/-- isMetAt.isMetAt -/
theorem c_L_isMetAt (l : Launch) (D : va_G) (cy : Nat → ClassId) (A : Nat → Prop) (ad sad : Nat → Nat) (X M : XF) (K : KF) (j : Nat) (hj : j < 6) (p2 : Int32) (hz : X 105 0 = nI 6) (ho : ∀ j : Nat, j < 6 → okAb (X 25 j) (X 26 j)) : Met l yL_isMetAt (wsA yL_isMetAt cL_isMetAt 7 (some .boolean)) ({ frames := 14, cells := 0, slots := 0, locals := 386 }) (PcW D cy A ad sad X M K [.ref (ad 42), .ref (sad 900), .int (nI j), .int p2]) (QiW D cy A ad (fun r X1 M1 K1 => r = im_f sad X M j p2 ∧ X1 = X ∧ M1 = M ∧ K1 = K)) 0 0 A := by
  refine met_ofW [(0, .ref (ad 42)), (1, .ref (sad 900)), (2, .int (nI j)), (3, .int p2)] (by decide +kernel) (Nat.le_of_ble_eq_true rfl) rfl ?_
  intro G C hl hR hL hD hcy hA had hsa hr hQ
  subst hD hcy hA had hsa hl
  refine g_iload_n C dL_isMetAt_0 2 rfl ?_
  refine g_iconst C dL_isMetAt_1 (v := 5) (by decide) ?_
  refine g_icmp_ne C dL_isMetAt_2 (tgt := 9) (by decide) (fun c_2 => ?_) (fun c_2 => ?_)
  · try simp only [sa_ap, si_ap, reduceIte, Nat.reduceEqDiff, up_us, lg_cmp_lt, lg_cmp_gt, lg_cmp_le, lg_cmp_ge] at c_2
    refine g_aload_n C dL_isMetAt_9 1 rfl ?_
    refine g_bipush C dL_isMetAt_10 (v := 41) (by decide) ?_
    refine g_iload_n C dL_isMetAt_12 2 rfl ?_
    refine g_iadd C dL_isMetAt_13 ?_
    refine g_topi (by exact nI_add 41 j) ?_
    refine g_bipush C dL_isMetAt_14 (v := 8) (by decide) ?_
    refine g_callSiW C dL_isMetAt_16 (c_L_pick _ _ _ _ _ _ _ _ _ (41 + j) (by omega) 8 (by decide) (by decide)) tw399 tw400 tw0 tw401 rfl ⟨by decide +kernel, by decide +kernel, rfl⟩ ⟨rfl, rfl⟩ (by rw [hR]; decide) (Nat.le_of_ble_eq_true rfl) (by rw [hR]; decide) (fun r_1 X1 M1 K1 h_2 => ?_)
    obtain ⟨rfl, hX1, hM1, hK1⟩ := h_2
    subst X1 M1 K1
    refine g_iconst C dL_isMetAt_19 (v := 4) (by decide) ?_
    refine g_isub C dL_isMetAt_20 ?_
    refine g_topi (y := lo_f (gsa G) j) (by simp [lo_f, c_2]) ?_
    refine g_istore C dL_isMetAt_21 (L' := [(4, .int (lo_f (gsa G) j)), (0, .ref (gad G 42)), (1, .ref (gsa G 900)), (2, .int (nI j)), (3, .int p2)]) rfl (by rw [hL]; decide) ?_
    refine g_iload C dL_isMetAt_23 0 rfl ?_
    refine g_sipush C dL_isMetAt_25 (v := 400) (by decide) ?_
    refine g_iadd C dL_isMetAt_28 ?_
    refine g_aload_n C dL_isMetAt_29 2 rfl ?_
    refine g_bipush C dL_isMetAt_30 (v := 48) (by decide) ?_
    refine g_iload_n C dL_isMetAt_32 3 rfl ?_
    refine g_iadd C dL_isMetAt_33 ?_
    refine g_topi (by exact nI_add 48 j) ?_
    refine g_sipush C dL_isMetAt_34 (v := 800) (by decide) ?_
    refine g_callSiW C dL_isMetAt_37 (c_L_pick _ _ _ _ _ _ _ _ _ (48 + j) (by omega) 800 (by decide) (by decide)) tw399 tw400 tw0 tw401 rfl ⟨by decide +kernel, by decide +kernel, rfl⟩ ⟨rfl, rfl⟩ (by rw [hR]; decide) (Nat.le_of_ble_eq_true rfl) (by rw [hR]; decide) (fun r_3 X1 M1 K1 h_4 => ?_)
    obtain ⟨rfl, hX1, hM1, hK1⟩ := h_4
    subst X1 M1 K1
    refine g_iadd C dL_isMetAt_40 ?_
    refine g_topi (y := hi_f (gsa G) j) rfl ?_
    refine g_istore C dL_isMetAt_41 (L' := [(5, .int (hi_f (gsa G) j)), (4, .int (lo_f (gsa G) j)), (0, .ref (gad G 42)), (1, .ref (gsa G 900)), (2, .int (nI j)), (3, .int p2)]) rfl (by rw [hL]; decide) ?_
    refine g_aload_n C dL_isMetAt_43 2 rfl ?_
    refine gf_L_o C tw363 dL_isMetAt_44 ?_
    refine g_bipush C dL_isMetAt_47 (v := 22) (by decide) ?_
    refine g_iload_n C dL_isMetAt_49 4 rfl ?_
    refine g_iconst C dL_isMetAt_50 (v := 0) (by decide) ?_
    refine g_callSiW C dL_isMetAt_51 (c_ask_22 _ _ _ _ _ _ _ _ _ j 6 hz (by decide) hj ho _) tw1112 tw1113 tw0 tw1114 rfl ⟨by decide +kernel, by decide +kernel, rfl⟩ ⟨rfl, rfl⟩ (by rw [hR]; decide) (Nat.le_of_ble_eq_true rfl) (by rw [hR]; decide) (fun r_5 X1 M1 K1 h_6 => ?_)
    obtain ⟨er_5, hX1, hM1, hK1⟩ := h_6
    subst X1 M1 K1
    try simp only [sa_ap, si_ap, reduceIte, Nat.reduceEqDiff] at er_5
    refine g_istore C dL_isMetAt_54 (L' := [(6, .int r_5), (5, .int (hi_f (gsa G) j)), (4, .int (lo_f (gsa G) j)), (0, .ref (gad G 42)), (1, .ref (gsa G 900)), (2, .int (nI j)), (3, .int p2)]) rfl (by rw [hL]; decide) ?_
    refine g_iload C dL_isMetAt_56 0 rfl ?_
    refine g_iload C dL_isMetAt_58 2 rfl ?_
    refine g_icmp_lt C dL_isMetAt_60 (tgt := 93) (by decide) (fun c_60 => ?_) (fun c_60 => ?_)
    · try simp only [sa_ap, si_ap, reduceIte, Nat.reduceEqDiff, up_us, lg_cmp_lt, lg_cmp_gt, lg_cmp_le, lg_cmp_ge] at c_60
      refine g_aload_n C dL_isMetAt_93 3 rfl ?_
      refine g_iload_n C dL_isMetAt_94 5 rfl ?_
      refine g_iload_n C dL_isMetAt_95 6 rfl ?_
      refine g_callViW C dL_isMetAt_96 (c_L_isWaivedAt _ _ _ _ _ _ _ _ _ j hj _) tw1153 tw1155 tp18 tw0 tw1156 (rv_L C) rfl ⟨by decide +kernel, by decide +kernel, rfl⟩ ⟨rfl, rfl⟩ (by rw [hR]; decide) (Nat.le_of_ble_eq_true rfl) (by rw [hR]; decide) (fun r_7 X1 M1 K1 h_8 => ?_)
      obtain ⟨er_7, hX1, hM1, hK1⟩ := h_8
      subst X1 M1 K1
      try simp only [sa_ap, si_ap, reduceIte, Nat.reduceEqDiff] at er_7
      have c_w := er_7
      refine g_if_eq C dL_isMetAt_99 (tgt := 106) (by decide) (fun c_99 => ?_) (fun c_99 => ?_)
      · try simp only [sa_ap, si_ap, reduceIte, Nat.reduceEqDiff, up_us, lg_cmp_lt, lg_cmp_gt, lg_cmp_le, lg_cmp_ge] at c_99
        rw [c_w] at c_99
        refine g_iconst C dL_isMetAt_106 (v := 0) (by decide) ?_
        refine g_zretW C hr (by decide) hQ (Nat.le_refl _) (Nat.le_refl _) dL_isMetAt_107 ?_
        exact ⟨(by first | with_reducible rfl | (subst er_5 er_7; first | with_reducible rfl | (simp only [sa_ap, si_ap, si_sa, sa_sa, sa_3, sa_4, sa_5, sa_6, sa_7, sa_8, im_f, up_us, up_up, c_2, c_60, c_99]; done) | (simp [sa_ap, si_ap, si_sa, sa_sa, sa_3, sa_4, sa_5, sa_6, sa_7, sa_8, im_f, up_us, up_up, c_2, c_60, c_99]; done))), (by first | with_reducible rfl | (subst er_5 er_7; first | with_reducible rfl | (simp only [sa_ap, si_ap, si_sa, sa_sa, sa_3, sa_4, sa_5, sa_6, sa_7, sa_8, im_f, up_us, up_up, c_2, c_60, c_99]; done) | (simp [sa_ap, si_ap, si_sa, sa_sa, sa_3, sa_4, sa_5, sa_6, sa_7, sa_8, im_f, up_us, up_up, c_2, c_60, c_99]; done))), rfl, rfl⟩
      · try simp only [sa_ap, si_ap, reduceIte, Nat.reduceEqDiff, up_us, lg_cmp_lt, lg_cmp_gt, lg_cmp_le, lg_cmp_ge] at c_99
        rw [c_w] at c_99
        have c_v : wv_l M j p2 = 1 := bo1 (wv_l_bo _ _ _) c_99
        refine g_iconst C dL_isMetAt_102 (v := 1) (by decide) ?_
        refine g_goto C dL_isMetAt_103 (tgt := 107) (by decide) ?_
        refine g_zretW C hr (by decide) hQ (Nat.le_refl _) (Nat.le_refl _) dL_isMetAt_107 ?_
        exact ⟨(by first | with_reducible rfl | (subst er_5 er_7; first | with_reducible rfl | (simp only [sa_ap, si_ap, si_sa, sa_sa, sa_3, sa_4, sa_5, sa_6, sa_7, sa_8, im_f, up_us, up_up, c_2, c_60, c_99, c_v]; done) | (simp [sa_ap, si_ap, si_sa, sa_sa, sa_3, sa_4, sa_5, sa_6, sa_7, sa_8, im_f, up_us, up_up, c_2, c_60, c_99, c_v]; done))), (by first | with_reducible rfl | (subst er_5 er_7; first | with_reducible rfl | (simp only [sa_ap, si_ap, si_sa, sa_sa, sa_3, sa_4, sa_5, sa_6, sa_7, sa_8, im_f, up_us, up_up, c_2, c_60, c_99, c_v]; done) | (simp [sa_ap, si_ap, si_sa, sa_sa, sa_3, sa_4, sa_5, sa_6, sa_7, sa_8, im_f, up_us, up_up, c_2, c_60, c_99, c_v]; done))), rfl, rfl⟩
    · try simp only [sa_ap, si_ap, reduceIte, Nat.reduceEqDiff, up_us, lg_cmp_lt, lg_cmp_gt, lg_cmp_le, lg_cmp_ge] at c_60
      refine g_iload C dL_isMetAt_63 0 rfl ?_
      refine g_iload C dL_isMetAt_65 1 rfl ?_
      refine g_icmp_gt C dL_isMetAt_67 (tgt := 93) (by decide) (fun c_67 => ?_) (fun c_67 => ?_)
      · try simp only [sa_ap, si_ap, reduceIte, Nat.reduceEqDiff, up_us, lg_cmp_lt, lg_cmp_gt, lg_cmp_le, lg_cmp_ge] at c_67
        refine g_aload_n C dL_isMetAt_93 3 rfl ?_
        refine g_iload_n C dL_isMetAt_94 5 rfl ?_
        refine g_iload_n C dL_isMetAt_95 6 rfl ?_
        refine g_callViW C dL_isMetAt_96 (c_L_isWaivedAt _ _ _ _ _ _ _ _ _ j hj _) tw1153 tw1155 tp18 tw0 tw1156 (rv_L C) rfl ⟨by decide +kernel, by decide +kernel, rfl⟩ ⟨rfl, rfl⟩ (by rw [hR]; decide) (Nat.le_of_ble_eq_true rfl) (by rw [hR]; decide) (fun r_9 X1 M1 K1 h_10 => ?_)
        obtain ⟨er_9, hX1, hM1, hK1⟩ := h_10
        subst X1 M1 K1
        try simp only [sa_ap, si_ap, reduceIte, Nat.reduceEqDiff] at er_9
        have c_w := er_9
        refine g_if_eq C dL_isMetAt_99 (tgt := 106) (by decide) (fun c_99 => ?_) (fun c_99 => ?_)
        · try simp only [sa_ap, si_ap, reduceIte, Nat.reduceEqDiff, up_us, lg_cmp_lt, lg_cmp_gt, lg_cmp_le, lg_cmp_ge] at c_99
          rw [c_w] at c_99
          refine g_iconst C dL_isMetAt_106 (v := 0) (by decide) ?_
          refine g_zretW C hr (by decide) hQ (Nat.le_refl _) (Nat.le_refl _) dL_isMetAt_107 ?_
          exact ⟨(by first | with_reducible rfl | (subst er_5 er_9; first | with_reducible rfl | (simp only [sa_ap, si_ap, si_sa, sa_sa, sa_3, sa_4, sa_5, sa_6, sa_7, sa_8, im_f, up_us, up_up, c_2, c_60, c_67, c_99]; done) | (simp [sa_ap, si_ap, si_sa, sa_sa, sa_3, sa_4, sa_5, sa_6, sa_7, sa_8, im_f, up_us, up_up, c_2, c_60, c_67, c_99]; done))), (by first | with_reducible rfl | (subst er_5 er_9; first | with_reducible rfl | (simp only [sa_ap, si_ap, si_sa, sa_sa, sa_3, sa_4, sa_5, sa_6, sa_7, sa_8, im_f, up_us, up_up, c_2, c_60, c_67, c_99]; done) | (simp [sa_ap, si_ap, si_sa, sa_sa, sa_3, sa_4, sa_5, sa_6, sa_7, sa_8, im_f, up_us, up_up, c_2, c_60, c_67, c_99]; done))), rfl, rfl⟩
        · try simp only [sa_ap, si_ap, reduceIte, Nat.reduceEqDiff, up_us, lg_cmp_lt, lg_cmp_gt, lg_cmp_le, lg_cmp_ge] at c_99
          rw [c_w] at c_99
          have c_v : wv_l M j p2 = 1 := bo1 (wv_l_bo _ _ _) c_99
          refine g_iconst C dL_isMetAt_102 (v := 1) (by decide) ?_
          refine g_goto C dL_isMetAt_103 (tgt := 107) (by decide) ?_
          refine g_zretW C hr (by decide) hQ (Nat.le_refl _) (Nat.le_refl _) dL_isMetAt_107 ?_
          exact ⟨(by first | with_reducible rfl | (subst er_5 er_9; first | with_reducible rfl | (simp only [sa_ap, si_ap, si_sa, sa_sa, sa_3, sa_4, sa_5, sa_6, sa_7, sa_8, im_f, up_us, up_up, c_2, c_60, c_67, c_99, c_v]; done) | (simp [sa_ap, si_ap, si_sa, sa_sa, sa_3, sa_4, sa_5, sa_6, sa_7, sa_8, im_f, up_us, up_up, c_2, c_60, c_67, c_99, c_v]; done))), (by first | with_reducible rfl | (subst er_5 er_9; first | with_reducible rfl | (simp only [sa_ap, si_ap, si_sa, sa_sa, sa_3, sa_4, sa_5, sa_6, sa_7, sa_8, im_f, up_us, up_up, c_2, c_60, c_67, c_99, c_v]; done) | (simp [sa_ap, si_ap, si_sa, sa_sa, sa_3, sa_4, sa_5, sa_6, sa_7, sa_8, im_f, up_us, up_up, c_2, c_60, c_67, c_99, c_v]; done))), rfl, rfl⟩
      · try simp only [sa_ap, si_ap, reduceIte, Nat.reduceEqDiff, up_us, lg_cmp_lt, lg_cmp_gt, lg_cmp_le, lg_cmp_ge] at c_67
        refine g_aload_n C dL_isMetAt_70 3 rfl ?_
        refine gf_L_o C tw363 dL_isMetAt_71 ?_
        refine g_bipush C dL_isMetAt_74 (v := 23) (by decide) ?_
        refine g_iload_n C dL_isMetAt_76 5 rfl ?_
        refine g_iconst C dL_isMetAt_77 (v := 0) (by decide) ?_
        refine g_callSiW C dL_isMetAt_78 (c_ask_23 _ _ _ _ _ _ _ _ _ j 6 hz (by decide) hj _) tw1112 tw1113 tw0 tw1114 rfl ⟨by decide +kernel, by decide +kernel, rfl⟩ ⟨rfl, rfl⟩ (by rw [hR]; decide) (Nat.le_of_ble_eq_true rfl) (by rw [hR]; decide) (fun r_11 X1 M1 K1 h_12 => ?_)
        obtain ⟨er_11, hX1, hM1, hK1⟩ := h_12
        subst X1 M1 K1
        try simp only [sa_ap, si_ap, reduceIte, Nat.reduceEqDiff] at er_11
        refine g_aload_n C dL_isMetAt_81 4 rfl ?_
        refine g_bipush C dL_isMetAt_82 (v := 54) (by decide) ?_
        refine g_iload_n C dL_isMetAt_84 5 rfl ?_
        refine g_iadd C dL_isMetAt_85 ?_
        refine g_topi (by exact nI_add 54 j) ?_
        refine g_iconst C dL_isMetAt_86 (v := 4) (by decide) ?_
        refine g_callSiW C dL_isMetAt_87 (c_L_pick _ _ _ _ _ _ _ _ _ (54 + j) (by omega) 4 (by decide) (by decide)) tw399 tw400 tw0 tw401 rfl ⟨by decide +kernel, by decide +kernel, rfl⟩ ⟨rfl, rfl⟩ (by rw [hR]; decide) (Nat.le_of_ble_eq_true rfl) (by rw [hR]; decide) (fun r_13 X1 M1 K1 h_14 => ?_)
        obtain ⟨rfl, hX1, hM1, hK1⟩ := h_14
        subst X1 M1 K1
        refine g_icmp_ge C dL_isMetAt_90 (tgt := 102) (by decide) (fun c_90 => ?_) (fun c_90 => ?_)
        · try simp only [sa_ap, si_ap, reduceIte, Nat.reduceEqDiff, up_us, lg_cmp_lt, lg_cmp_gt, lg_cmp_le, lg_cmp_ge] at c_90
          refine g_iconst C dL_isMetAt_102 (v := 1) (by decide) ?_
          refine g_goto C dL_isMetAt_103 (tgt := 107) (by decide) ?_
          refine g_zretW C hr (by decide) hQ (Nat.le_refl _) (Nat.le_refl _) dL_isMetAt_107 ?_
          exact ⟨(by first | with_reducible rfl | (subst er_5 er_11; first | with_reducible rfl | (simp only [sa_ap, si_ap, si_sa, sa_sa, sa_3, sa_4, sa_5, sa_6, sa_7, sa_8, im_f, up_us, up_up, c_2, c_60, c_67, c_90]; done) | (simp [sa_ap, si_ap, si_sa, sa_sa, sa_3, sa_4, sa_5, sa_6, sa_7, sa_8, im_f, up_us, up_up, c_2, c_60, c_67, c_90]; done))), (by first | with_reducible rfl | (subst er_5 er_11; first | with_reducible rfl | (simp only [sa_ap, si_ap, si_sa, sa_sa, sa_3, sa_4, sa_5, sa_6, sa_7, sa_8, im_f, up_us, up_up, c_2, c_60, c_67, c_90]; done) | (simp [sa_ap, si_ap, si_sa, sa_sa, sa_3, sa_4, sa_5, sa_6, sa_7, sa_8, im_f, up_us, up_up, c_2, c_60, c_67, c_90]; done))), rfl, rfl⟩
        · try simp only [sa_ap, si_ap, reduceIte, Nat.reduceEqDiff, up_us, lg_cmp_lt, lg_cmp_gt, lg_cmp_le, lg_cmp_ge] at c_90
          refine g_aload_n C dL_isMetAt_93 3 rfl ?_
          refine g_iload_n C dL_isMetAt_94 5 rfl ?_
          refine g_iload_n C dL_isMetAt_95 6 rfl ?_
          refine g_callViW C dL_isMetAt_96 (c_L_isWaivedAt _ _ _ _ _ _ _ _ _ j hj _) tw1153 tw1155 tp18 tw0 tw1156 (rv_L C) rfl ⟨by decide +kernel, by decide +kernel, rfl⟩ ⟨rfl, rfl⟩ (by rw [hR]; decide) (Nat.le_of_ble_eq_true rfl) (by rw [hR]; decide) (fun r_15 X1 M1 K1 h_16 => ?_)
          obtain ⟨er_15, hX1, hM1, hK1⟩ := h_16
          subst X1 M1 K1
          try simp only [sa_ap, si_ap, reduceIte, Nat.reduceEqDiff] at er_15
          have c_w := er_15
          refine g_if_eq C dL_isMetAt_99 (tgt := 106) (by decide) (fun c_99 => ?_) (fun c_99 => ?_)
          · try simp only [sa_ap, si_ap, reduceIte, Nat.reduceEqDiff, up_us, lg_cmp_lt, lg_cmp_gt, lg_cmp_le, lg_cmp_ge] at c_99
            rw [c_w] at c_99
            refine g_iconst C dL_isMetAt_106 (v := 0) (by decide) ?_
            refine g_zretW C hr (by decide) hQ (Nat.le_refl _) (Nat.le_refl _) dL_isMetAt_107 ?_
            exact ⟨(by first | with_reducible rfl | (subst er_5 er_11 er_15; first | with_reducible rfl | (simp only [sa_ap, si_ap, si_sa, sa_sa, sa_3, sa_4, sa_5, sa_6, sa_7, sa_8, im_f, up_us, up_up, c_2, c_60, c_67, c_90, c_99]; done) | (simp [sa_ap, si_ap, si_sa, sa_sa, sa_3, sa_4, sa_5, sa_6, sa_7, sa_8, im_f, up_us, up_up, c_2, c_60, c_67, c_90, c_99]; done))), (by first | with_reducible rfl | (subst er_5 er_11 er_15; first | with_reducible rfl | (simp only [sa_ap, si_ap, si_sa, sa_sa, sa_3, sa_4, sa_5, sa_6, sa_7, sa_8, im_f, up_us, up_up, c_2, c_60, c_67, c_90, c_99]; done) | (simp [sa_ap, si_ap, si_sa, sa_sa, sa_3, sa_4, sa_5, sa_6, sa_7, sa_8, im_f, up_us, up_up, c_2, c_60, c_67, c_90, c_99]; done))), rfl, rfl⟩
          · try simp only [sa_ap, si_ap, reduceIte, Nat.reduceEqDiff, up_us, lg_cmp_lt, lg_cmp_gt, lg_cmp_le, lg_cmp_ge] at c_99
            rw [c_w] at c_99
            have c_v : wv_l M j p2 = 1 := bo1 (wv_l_bo _ _ _) c_99
            refine g_iconst C dL_isMetAt_102 (v := 1) (by decide) ?_
            refine g_goto C dL_isMetAt_103 (tgt := 107) (by decide) ?_
            refine g_zretW C hr (by decide) hQ (Nat.le_refl _) (Nat.le_refl _) dL_isMetAt_107 ?_
            exact ⟨(by first | with_reducible rfl | (subst er_5 er_11 er_15; first | with_reducible rfl | (simp only [sa_ap, si_ap, si_sa, sa_sa, sa_3, sa_4, sa_5, sa_6, sa_7, sa_8, im_f, up_us, up_up, c_2, c_60, c_67, c_90, c_99, c_v]; done) | (simp [sa_ap, si_ap, si_sa, sa_sa, sa_3, sa_4, sa_5, sa_6, sa_7, sa_8, im_f, up_us, up_up, c_2, c_60, c_67, c_90, c_99, c_v]; done))), (by first | with_reducible rfl | (subst er_5 er_11 er_15; first | with_reducible rfl | (simp only [sa_ap, si_ap, si_sa, sa_sa, sa_3, sa_4, sa_5, sa_6, sa_7, sa_8, im_f, up_us, up_up, c_2, c_60, c_67, c_90, c_99, c_v]; done) | (simp [sa_ap, si_ap, si_sa, sa_sa, sa_3, sa_4, sa_5, sa_6, sa_7, sa_8, im_f, up_us, up_up, c_2, c_60, c_67, c_90, c_99, c_v]; done))), rfl, rfl⟩
  · try simp only [sa_ap, si_ap, reduceIte, Nat.reduceEqDiff, up_us, lg_cmp_lt, lg_cmp_gt, lg_cmp_le, lg_cmp_ge] at c_2
    refine g_iconst C dL_isMetAt_5 (v := 1) (by decide) ?_
    refine g_goto C dL_isMetAt_6 (tgt := 21) (by decide) ?_
    refine g_topi (y := lo_f (gsa G) j) (by simp [lo_f, c_2]) ?_
    refine g_istore C dL_isMetAt_21 (L' := [(4, .int (lo_f (gsa G) j)), (0, .ref (gad G 42)), (1, .ref (gsa G 900)), (2, .int (nI j)), (3, .int p2)]) rfl (by rw [hL]; decide) ?_
    refine g_iload C dL_isMetAt_23 0 rfl ?_
    refine g_sipush C dL_isMetAt_25 (v := 400) (by decide) ?_
    refine g_iadd C dL_isMetAt_28 ?_
    refine g_aload_n C dL_isMetAt_29 2 rfl ?_
    refine g_bipush C dL_isMetAt_30 (v := 48) (by decide) ?_
    refine g_iload_n C dL_isMetAt_32 3 rfl ?_
    refine g_iadd C dL_isMetAt_33 ?_
    refine g_topi (by exact nI_add 48 j) ?_
    refine g_sipush C dL_isMetAt_34 (v := 800) (by decide) ?_
    refine g_callSiW C dL_isMetAt_37 (c_L_pick _ _ _ _ _ _ _ _ _ (48 + j) (by omega) 800 (by decide) (by decide)) tw399 tw400 tw0 tw401 rfl ⟨by decide +kernel, by decide +kernel, rfl⟩ ⟨rfl, rfl⟩ (by rw [hR]; decide) (Nat.le_of_ble_eq_true rfl) (by rw [hR]; decide) (fun r_17 X1 M1 K1 h_18 => ?_)
    obtain ⟨rfl, hX1, hM1, hK1⟩ := h_18
    subst X1 M1 K1
    refine g_iadd C dL_isMetAt_40 ?_
    refine g_topi (y := hi_f (gsa G) j) rfl ?_
    refine g_istore C dL_isMetAt_41 (L' := [(5, .int (hi_f (gsa G) j)), (4, .int (lo_f (gsa G) j)), (0, .ref (gad G 42)), (1, .ref (gsa G 900)), (2, .int (nI j)), (3, .int p2)]) rfl (by rw [hL]; decide) ?_
    refine g_aload_n C dL_isMetAt_43 2 rfl ?_
    refine gf_L_o C tw363 dL_isMetAt_44 ?_
    refine g_bipush C dL_isMetAt_47 (v := 22) (by decide) ?_
    refine g_iload_n C dL_isMetAt_49 4 rfl ?_
    refine g_iconst C dL_isMetAt_50 (v := 0) (by decide) ?_
    refine g_callSiW C dL_isMetAt_51 (c_ask_22 _ _ _ _ _ _ _ _ _ j 6 hz (by decide) hj ho _) tw1112 tw1113 tw0 tw1114 rfl ⟨by decide +kernel, by decide +kernel, rfl⟩ ⟨rfl, rfl⟩ (by rw [hR]; decide) (Nat.le_of_ble_eq_true rfl) (by rw [hR]; decide) (fun r_19 X1 M1 K1 h_20 => ?_)
    obtain ⟨er_19, hX1, hM1, hK1⟩ := h_20
    subst X1 M1 K1
    try simp only [sa_ap, si_ap, reduceIte, Nat.reduceEqDiff] at er_19
    refine g_istore C dL_isMetAt_54 (L' := [(6, .int r_19), (5, .int (hi_f (gsa G) j)), (4, .int (lo_f (gsa G) j)), (0, .ref (gad G 42)), (1, .ref (gsa G 900)), (2, .int (nI j)), (3, .int p2)]) rfl (by rw [hL]; decide) ?_
    refine g_iload C dL_isMetAt_56 0 rfl ?_
    refine g_iload C dL_isMetAt_58 2 rfl ?_
    refine g_icmp_lt C dL_isMetAt_60 (tgt := 93) (by decide) (fun c_60 => ?_) (fun c_60 => ?_)
    · try simp only [sa_ap, si_ap, reduceIte, Nat.reduceEqDiff, up_us, lg_cmp_lt, lg_cmp_gt, lg_cmp_le, lg_cmp_ge] at c_60
      refine g_aload_n C dL_isMetAt_93 3 rfl ?_
      refine g_iload_n C dL_isMetAt_94 5 rfl ?_
      refine g_iload_n C dL_isMetAt_95 6 rfl ?_
      refine g_callViW C dL_isMetAt_96 (c_L_isWaivedAt _ _ _ _ _ _ _ _ _ j hj _) tw1153 tw1155 tp18 tw0 tw1156 (rv_L C) rfl ⟨by decide +kernel, by decide +kernel, rfl⟩ ⟨rfl, rfl⟩ (by rw [hR]; decide) (Nat.le_of_ble_eq_true rfl) (by rw [hR]; decide) (fun r_21 X1 M1 K1 h_22 => ?_)
      obtain ⟨er_21, hX1, hM1, hK1⟩ := h_22
      subst X1 M1 K1
      try simp only [sa_ap, si_ap, reduceIte, Nat.reduceEqDiff] at er_21
      have c_w := er_21
      refine g_if_eq C dL_isMetAt_99 (tgt := 106) (by decide) (fun c_99 => ?_) (fun c_99 => ?_)
      · try simp only [sa_ap, si_ap, reduceIte, Nat.reduceEqDiff, up_us, lg_cmp_lt, lg_cmp_gt, lg_cmp_le, lg_cmp_ge] at c_99
        rw [c_w] at c_99
        refine g_iconst C dL_isMetAt_106 (v := 0) (by decide) ?_
        refine g_zretW C hr (by decide) hQ (Nat.le_refl _) (Nat.le_refl _) dL_isMetAt_107 ?_
        exact ⟨(by first | with_reducible rfl | (subst er_19 er_21; first | with_reducible rfl | (simp only [sa_ap, si_ap, si_sa, sa_sa, sa_3, sa_4, sa_5, sa_6, sa_7, sa_8, im_f, up_us, up_up, c_2, c_60, c_99]; done) | (simp [sa_ap, si_ap, si_sa, sa_sa, sa_3, sa_4, sa_5, sa_6, sa_7, sa_8, im_f, up_us, up_up, c_2, c_60, c_99]; done))), (by first | with_reducible rfl | (subst er_19 er_21; first | with_reducible rfl | (simp only [sa_ap, si_ap, si_sa, sa_sa, sa_3, sa_4, sa_5, sa_6, sa_7, sa_8, im_f, up_us, up_up, c_2, c_60, c_99]; done) | (simp [sa_ap, si_ap, si_sa, sa_sa, sa_3, sa_4, sa_5, sa_6, sa_7, sa_8, im_f, up_us, up_up, c_2, c_60, c_99]; done))), rfl, rfl⟩
      · try simp only [sa_ap, si_ap, reduceIte, Nat.reduceEqDiff, up_us, lg_cmp_lt, lg_cmp_gt, lg_cmp_le, lg_cmp_ge] at c_99
        rw [c_w] at c_99
        have c_v : wv_l M j p2 = 1 := bo1 (wv_l_bo _ _ _) c_99
        refine g_iconst C dL_isMetAt_102 (v := 1) (by decide) ?_
        refine g_goto C dL_isMetAt_103 (tgt := 107) (by decide) ?_
        refine g_zretW C hr (by decide) hQ (Nat.le_refl _) (Nat.le_refl _) dL_isMetAt_107 ?_
        exact ⟨(by first | with_reducible rfl | (subst er_19 er_21; first | with_reducible rfl | (simp only [sa_ap, si_ap, si_sa, sa_sa, sa_3, sa_4, sa_5, sa_6, sa_7, sa_8, im_f, up_us, up_up, c_2, c_60, c_99, c_v]; done) | (simp [sa_ap, si_ap, si_sa, sa_sa, sa_3, sa_4, sa_5, sa_6, sa_7, sa_8, im_f, up_us, up_up, c_2, c_60, c_99, c_v]; done))), (by first | with_reducible rfl | (subst er_19 er_21; first | with_reducible rfl | (simp only [sa_ap, si_ap, si_sa, sa_sa, sa_3, sa_4, sa_5, sa_6, sa_7, sa_8, im_f, up_us, up_up, c_2, c_60, c_99, c_v]; done) | (simp [sa_ap, si_ap, si_sa, sa_sa, sa_3, sa_4, sa_5, sa_6, sa_7, sa_8, im_f, up_us, up_up, c_2, c_60, c_99, c_v]; done))), rfl, rfl⟩
    · try simp only [sa_ap, si_ap, reduceIte, Nat.reduceEqDiff, up_us, lg_cmp_lt, lg_cmp_gt, lg_cmp_le, lg_cmp_ge] at c_60
      refine g_iload C dL_isMetAt_63 0 rfl ?_
      refine g_iload C dL_isMetAt_65 1 rfl ?_
      refine g_icmp_gt C dL_isMetAt_67 (tgt := 93) (by decide) (fun c_67 => ?_) (fun c_67 => ?_)
      · try simp only [sa_ap, si_ap, reduceIte, Nat.reduceEqDiff, up_us, lg_cmp_lt, lg_cmp_gt, lg_cmp_le, lg_cmp_ge] at c_67
        refine g_aload_n C dL_isMetAt_93 3 rfl ?_
        refine g_iload_n C dL_isMetAt_94 5 rfl ?_
        refine g_iload_n C dL_isMetAt_95 6 rfl ?_
        refine g_callViW C dL_isMetAt_96 (c_L_isWaivedAt _ _ _ _ _ _ _ _ _ j hj _) tw1153 tw1155 tp18 tw0 tw1156 (rv_L C) rfl ⟨by decide +kernel, by decide +kernel, rfl⟩ ⟨rfl, rfl⟩ (by rw [hR]; decide) (Nat.le_of_ble_eq_true rfl) (by rw [hR]; decide) (fun r_23 X1 M1 K1 h_24 => ?_)
        obtain ⟨er_23, hX1, hM1, hK1⟩ := h_24
        subst X1 M1 K1
        try simp only [sa_ap, si_ap, reduceIte, Nat.reduceEqDiff] at er_23
        have c_w := er_23
        refine g_if_eq C dL_isMetAt_99 (tgt := 106) (by decide) (fun c_99 => ?_) (fun c_99 => ?_)
        · try simp only [sa_ap, si_ap, reduceIte, Nat.reduceEqDiff, up_us, lg_cmp_lt, lg_cmp_gt, lg_cmp_le, lg_cmp_ge] at c_99
          rw [c_w] at c_99
          refine g_iconst C dL_isMetAt_106 (v := 0) (by decide) ?_
          refine g_zretW C hr (by decide) hQ (Nat.le_refl _) (Nat.le_refl _) dL_isMetAt_107 ?_
          exact ⟨(by first | with_reducible rfl | (subst er_19 er_23; first | with_reducible rfl | (simp only [sa_ap, si_ap, si_sa, sa_sa, sa_3, sa_4, sa_5, sa_6, sa_7, sa_8, im_f, up_us, up_up, c_2, c_60, c_67, c_99]; done) | (simp [sa_ap, si_ap, si_sa, sa_sa, sa_3, sa_4, sa_5, sa_6, sa_7, sa_8, im_f, up_us, up_up, c_2, c_60, c_67, c_99]; done))), (by first | with_reducible rfl | (subst er_19 er_23; first | with_reducible rfl | (simp only [sa_ap, si_ap, si_sa, sa_sa, sa_3, sa_4, sa_5, sa_6, sa_7, sa_8, im_f, up_us, up_up, c_2, c_60, c_67, c_99]; done) | (simp [sa_ap, si_ap, si_sa, sa_sa, sa_3, sa_4, sa_5, sa_6, sa_7, sa_8, im_f, up_us, up_up, c_2, c_60, c_67, c_99]; done))), rfl, rfl⟩
        · try simp only [sa_ap, si_ap, reduceIte, Nat.reduceEqDiff, up_us, lg_cmp_lt, lg_cmp_gt, lg_cmp_le, lg_cmp_ge] at c_99
          rw [c_w] at c_99
          have c_v : wv_l M j p2 = 1 := bo1 (wv_l_bo _ _ _) c_99
          refine g_iconst C dL_isMetAt_102 (v := 1) (by decide) ?_
          refine g_goto C dL_isMetAt_103 (tgt := 107) (by decide) ?_
          refine g_zretW C hr (by decide) hQ (Nat.le_refl _) (Nat.le_refl _) dL_isMetAt_107 ?_
          exact ⟨(by first | with_reducible rfl | (subst er_19 er_23; first | with_reducible rfl | (simp only [sa_ap, si_ap, si_sa, sa_sa, sa_3, sa_4, sa_5, sa_6, sa_7, sa_8, im_f, up_us, up_up, c_2, c_60, c_67, c_99, c_v]; done) | (simp [sa_ap, si_ap, si_sa, sa_sa, sa_3, sa_4, sa_5, sa_6, sa_7, sa_8, im_f, up_us, up_up, c_2, c_60, c_67, c_99, c_v]; done))), (by first | with_reducible rfl | (subst er_19 er_23; first | with_reducible rfl | (simp only [sa_ap, si_ap, si_sa, sa_sa, sa_3, sa_4, sa_5, sa_6, sa_7, sa_8, im_f, up_us, up_up, c_2, c_60, c_67, c_99, c_v]; done) | (simp [sa_ap, si_ap, si_sa, sa_sa, sa_3, sa_4, sa_5, sa_6, sa_7, sa_8, im_f, up_us, up_up, c_2, c_60, c_67, c_99, c_v]; done))), rfl, rfl⟩
      · try simp only [sa_ap, si_ap, reduceIte, Nat.reduceEqDiff, up_us, lg_cmp_lt, lg_cmp_gt, lg_cmp_le, lg_cmp_ge] at c_67
        refine g_aload_n C dL_isMetAt_70 3 rfl ?_
        refine gf_L_o C tw363 dL_isMetAt_71 ?_
        refine g_bipush C dL_isMetAt_74 (v := 23) (by decide) ?_
        refine g_iload_n C dL_isMetAt_76 5 rfl ?_
        refine g_iconst C dL_isMetAt_77 (v := 0) (by decide) ?_
        refine g_callSiW C dL_isMetAt_78 (c_ask_23 _ _ _ _ _ _ _ _ _ j 6 hz (by decide) hj _) tw1112 tw1113 tw0 tw1114 rfl ⟨by decide +kernel, by decide +kernel, rfl⟩ ⟨rfl, rfl⟩ (by rw [hR]; decide) (Nat.le_of_ble_eq_true rfl) (by rw [hR]; decide) (fun r_25 X1 M1 K1 h_26 => ?_)
        obtain ⟨er_25, hX1, hM1, hK1⟩ := h_26
        subst X1 M1 K1
        try simp only [sa_ap, si_ap, reduceIte, Nat.reduceEqDiff] at er_25
        refine g_aload_n C dL_isMetAt_81 4 rfl ?_
        refine g_bipush C dL_isMetAt_82 (v := 54) (by decide) ?_
        refine g_iload_n C dL_isMetAt_84 5 rfl ?_
        refine g_iadd C dL_isMetAt_85 ?_
        refine g_topi (by exact nI_add 54 j) ?_
        refine g_iconst C dL_isMetAt_86 (v := 4) (by decide) ?_
        refine g_callSiW C dL_isMetAt_87 (c_L_pick _ _ _ _ _ _ _ _ _ (54 + j) (by omega) 4 (by decide) (by decide)) tw399 tw400 tw0 tw401 rfl ⟨by decide +kernel, by decide +kernel, rfl⟩ ⟨rfl, rfl⟩ (by rw [hR]; decide) (Nat.le_of_ble_eq_true rfl) (by rw [hR]; decide) (fun r_27 X1 M1 K1 h_28 => ?_)
        obtain ⟨rfl, hX1, hM1, hK1⟩ := h_28
        subst X1 M1 K1
        refine g_icmp_ge C dL_isMetAt_90 (tgt := 102) (by decide) (fun c_90 => ?_) (fun c_90 => ?_)
        · try simp only [sa_ap, si_ap, reduceIte, Nat.reduceEqDiff, up_us, lg_cmp_lt, lg_cmp_gt, lg_cmp_le, lg_cmp_ge] at c_90
          refine g_iconst C dL_isMetAt_102 (v := 1) (by decide) ?_
          refine g_goto C dL_isMetAt_103 (tgt := 107) (by decide) ?_
          refine g_zretW C hr (by decide) hQ (Nat.le_refl _) (Nat.le_refl _) dL_isMetAt_107 ?_
          exact ⟨(by first | with_reducible rfl | (subst er_19 er_25; first | with_reducible rfl | (simp only [sa_ap, si_ap, si_sa, sa_sa, sa_3, sa_4, sa_5, sa_6, sa_7, sa_8, im_f, up_us, up_up, c_2, c_60, c_67, c_90]; done) | (simp [sa_ap, si_ap, si_sa, sa_sa, sa_3, sa_4, sa_5, sa_6, sa_7, sa_8, im_f, up_us, up_up, c_2, c_60, c_67, c_90]; done))), (by first | with_reducible rfl | (subst er_19 er_25; first | with_reducible rfl | (simp only [sa_ap, si_ap, si_sa, sa_sa, sa_3, sa_4, sa_5, sa_6, sa_7, sa_8, im_f, up_us, up_up, c_2, c_60, c_67, c_90]; done) | (simp [sa_ap, si_ap, si_sa, sa_sa, sa_3, sa_4, sa_5, sa_6, sa_7, sa_8, im_f, up_us, up_up, c_2, c_60, c_67, c_90]; done))), rfl, rfl⟩
        · try simp only [sa_ap, si_ap, reduceIte, Nat.reduceEqDiff, up_us, lg_cmp_lt, lg_cmp_gt, lg_cmp_le, lg_cmp_ge] at c_90
          refine g_aload_n C dL_isMetAt_93 3 rfl ?_
          refine g_iload_n C dL_isMetAt_94 5 rfl ?_
          refine g_iload_n C dL_isMetAt_95 6 rfl ?_
          refine g_callViW C dL_isMetAt_96 (c_L_isWaivedAt _ _ _ _ _ _ _ _ _ j hj _) tw1153 tw1155 tp18 tw0 tw1156 (rv_L C) rfl ⟨by decide +kernel, by decide +kernel, rfl⟩ ⟨rfl, rfl⟩ (by rw [hR]; decide) (Nat.le_of_ble_eq_true rfl) (by rw [hR]; decide) (fun r_29 X1 M1 K1 h_30 => ?_)
          obtain ⟨er_29, hX1, hM1, hK1⟩ := h_30
          subst X1 M1 K1
          try simp only [sa_ap, si_ap, reduceIte, Nat.reduceEqDiff] at er_29
          have c_w := er_29
          refine g_if_eq C dL_isMetAt_99 (tgt := 106) (by decide) (fun c_99 => ?_) (fun c_99 => ?_)
          · try simp only [sa_ap, si_ap, reduceIte, Nat.reduceEqDiff, up_us, lg_cmp_lt, lg_cmp_gt, lg_cmp_le, lg_cmp_ge] at c_99
            rw [c_w] at c_99
            refine g_iconst C dL_isMetAt_106 (v := 0) (by decide) ?_
            refine g_zretW C hr (by decide) hQ (Nat.le_refl _) (Nat.le_refl _) dL_isMetAt_107 ?_
            exact ⟨(by first | with_reducible rfl | (subst er_19 er_25 er_29; first | with_reducible rfl | (simp only [sa_ap, si_ap, si_sa, sa_sa, sa_3, sa_4, sa_5, sa_6, sa_7, sa_8, im_f, up_us, up_up, c_2, c_60, c_67, c_90, c_99]; done) | (simp [sa_ap, si_ap, si_sa, sa_sa, sa_3, sa_4, sa_5, sa_6, sa_7, sa_8, im_f, up_us, up_up, c_2, c_60, c_67, c_90, c_99]; done))), (by first | with_reducible rfl | (subst er_19 er_25 er_29; first | with_reducible rfl | (simp only [sa_ap, si_ap, si_sa, sa_sa, sa_3, sa_4, sa_5, sa_6, sa_7, sa_8, im_f, up_us, up_up, c_2, c_60, c_67, c_90, c_99]; done) | (simp [sa_ap, si_ap, si_sa, sa_sa, sa_3, sa_4, sa_5, sa_6, sa_7, sa_8, im_f, up_us, up_up, c_2, c_60, c_67, c_90, c_99]; done))), rfl, rfl⟩
          · try simp only [sa_ap, si_ap, reduceIte, Nat.reduceEqDiff, up_us, lg_cmp_lt, lg_cmp_gt, lg_cmp_le, lg_cmp_ge] at c_99
            rw [c_w] at c_99
            have c_v : wv_l M j p2 = 1 := bo1 (wv_l_bo _ _ _) c_99
            refine g_iconst C dL_isMetAt_102 (v := 1) (by decide) ?_
            refine g_goto C dL_isMetAt_103 (tgt := 107) (by decide) ?_
            refine g_zretW C hr (by decide) hQ (Nat.le_refl _) (Nat.le_refl _) dL_isMetAt_107 ?_
            exact ⟨(by first | with_reducible rfl | (subst er_19 er_25 er_29; first | with_reducible rfl | (simp only [sa_ap, si_ap, si_sa, sa_sa, sa_3, sa_4, sa_5, sa_6, sa_7, sa_8, im_f, up_us, up_up, c_2, c_60, c_67, c_90, c_99, c_v]; done) | (simp [sa_ap, si_ap, si_sa, sa_sa, sa_3, sa_4, sa_5, sa_6, sa_7, sa_8, im_f, up_us, up_up, c_2, c_60, c_67, c_90, c_99, c_v]; done))), (by first | with_reducible rfl | (subst er_19 er_25 er_29; first | with_reducible rfl | (simp only [sa_ap, si_ap, si_sa, sa_sa, sa_3, sa_4, sa_5, sa_6, sa_7, sa_8, im_f, up_us, up_up, c_2, c_60, c_67, c_90, c_99, c_v]; done) | (simp [sa_ap, si_ap, si_sa, sa_sa, sa_3, sa_4, sa_5, sa_6, sa_7, sa_8, im_f, up_us, up_up, c_2, c_60, c_67, c_90, c_99, c_v]; done))), rfl, rfl⟩

set_option maxHeartbeats 400000 in
set_option maxRecDepth 100000 in
/-- firstNotMet.firstNotMet -/
theorem c_L_firstNotMet (l : Launch) (D : va_G) (cy : Nat → ClassId) (A : Nat → Prop) (ad sad : Nat → Nat) (X M : XF) (K : KF) (p2 : Int32) (hz : X 105 0 = nI 6) (ho : ∀ j : Nat, j < 6 → okAb (X 25 j) (X 26 j)) : Met l yL_firstNotMet (wsA yL_firstNotMet cL_firstNotMet 4 (some .int)) ({ frames := 15, cells := 0, slots := 0, locals := 412 }) (PcW D cy A ad sad X M K [.ref (ad 42), .ref (sad 900), .int p2]) (QiW D cy A ad (fun r X1 M1 K1 => r = nI (lf sad X M p2 6 0) ∧ X1 = X ∧ M1 = M ∧ K1 = K)) 0 0 A := by
  refine met_ofW [(0, .ref (ad 42)), (1, .ref (sad 900)), (2, .int p2)] (by decide +kernel) (Nat.le_of_ble_eq_true rfl) rfl ?_
  intro G C hl hR hL hD hcy hA had hsa hr hQ
  subst hD hcy hA had hsa hl
  refine g_iconst C dL_firstNotMet_0 (v := 0) (by decide) ?_
  refine g_istore_n C dL_firstNotMet_1 (L' := [(3, .int 0), (0, .ref (gad G 42)), (1, .ref (gsa G 900)), (2, .int p2)]) rfl (by rw [hL]; decide) ?_
  have lp2 : ∀ (n i : Nat) (hi : i + n = 6) (hf : lf (gsa G) X M p2 6 0 = lf (gsa G) X M p2 n i), GH G (WX G X M K) [(0, .ref (gad G 42)), (1, .ref (gsa G 900)), (2, .int p2), (3, .int (nI i))] 0 0 2 [] := by
    intro n
    induction n with
    | zero =>
      intro i hi hf
      obtain rfl : i = 6 := by omega
      refine g_iload_n C dL_firstNotMet_2 3 rfl ?_
      refine g_bipush C dL_firstNotMet_3 (v := 6) (by decide) ?_
      refine g_icmp_ge C dL_firstNotMet_5 (tgt := 24) (by decide) (fun c_5 => ?_) (fun c_5 => absurd (nI_le (a := 6) (b := 6) (Nat.le_refl _) (by omega)) c_5)
      refine g_iload_n C dL_firstNotMet_24 3 rfl ?_
      refine g_iretW C hr hQ (Nat.le_refl _) (Nat.le_refl _) dL_firstNotMet_25 ?_
      exact ⟨(by rw [hf]; first | rfl | (unfold lf; rw [if_pos c_15])), rfl, rfl, rfl⟩
    | succ n ih =>
      intro i hi hf
      refine g_iload_n C dL_firstNotMet_2 3 rfl ?_
      refine g_bipush C dL_firstNotMet_3 (v := 6) (by decide) ?_
      refine g_icmp_ge C dL_firstNotMet_5 (tgt := 24) (by decide) (fun c_5 => absurd c_5 (nI_ge (a := i) (b := 6) (by omega) (by omega))) (fun c_5 => ?_)
      refine g_aload_n C dL_firstNotMet_8 0 rfl ?_
      refine g_aload_n C dL_firstNotMet_9 1 rfl ?_
      refine g_iload_n C dL_firstNotMet_10 3 rfl ?_
      refine g_iload_n C dL_firstNotMet_11 2 rfl ?_
      refine g_callViW C dL_firstNotMet_12 (c_L_isMetAt _ _ _ _ _ _ _ _ _ i (by omega) _ hz ho) tw1182 tw1184 tp23 tw0 tw1185 (rv_L C) rfl ⟨by decide +kernel, by decide +kernel, rfl⟩ ⟨rfl, rfl⟩ (by rw [hR]; decide) (Nat.le_of_ble_eq_true rfl) (by rw [hR]; decide) (fun r_1 X1 M1 K1 h_2 => ?_)
      obtain ⟨er_1, hX1, hM1, hK1⟩ := h_2
      subst X1 M1 K1
      try simp only [sa_ap, si_ap, reduceIte, Nat.reduceEqDiff] at er_1
      have c_m := er_1
      refine g_if_eq C dL_firstNotMet_15 (tgt := 24) (by decide) (fun c_15 => ?_) (fun c_15 => ?_)
      · try simp only [sa_ap, si_ap, reduceIte, Nat.reduceEqDiff, up_us, lg_cmp_lt, lg_cmp_gt, lg_cmp_le, lg_cmp_ge] at c_15
        rw [c_m] at c_15
        refine g_iload_n C dL_firstNotMet_24 3 rfl ?_
        refine g_iretW C hr hQ (Nat.le_refl _) (Nat.le_refl _) dL_firstNotMet_25 ?_
        exact ⟨(by rw [hf]; first | rfl | (unfold lf; rw [if_pos c_15])), rfl, rfl, rfl⟩
      · try simp only [sa_ap, si_ap, reduceIte, Nat.reduceEqDiff, up_us, lg_cmp_lt, lg_cmp_gt, lg_cmp_le, lg_cmp_ge] at c_15
        rw [c_m] at c_15
        refine g_iinc C dL_firstNotMet_18 3 rfl (v := nI (i + 1)) (nI_1 _) (L' := [(3, .int (nI (i + 1))), (0, .ref (gad G 42)), (1, .ref (gsa G 900)), (2, .int p2)]) rfl (by rw [hL]; decide) ?_
        refine g_goto C dL_firstNotMet_21 (tgt := 2) (by decide) ?_
        exact g_sub [1, 2, 3, 0] rfl (ih (i + 1) (by omega) (by rw [hf]; exact if_neg c_15))
  exact g_sub [1, 2, 3, 0] rfl (lp2 (6) 0 (by omega) rfl)

