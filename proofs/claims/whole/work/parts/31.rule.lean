/-! the reference's rules -/
def ab_ok (p1 p2 : Int32) : Int32 := if p1 = 116 then lin p2.toInt64 0 2 else if p1 = 115 then lin p2.toInt64 0 2 else if p1 = 103 then lin p2.toInt64 0 5 else 1
def xs_rule (z p1 p2 p3 p4 p5 : Int32) : Int32 := if kz p1 < 0 then 1 else if ab_ok p1 p2 = 0 then 1 else if p4 < p3 then 1 else if lin p5.toInt64 0 300 = 0 then 1 else if z = 12 then 2 else 0

set_option maxHeartbeats 4000000 in
set_option maxRecDepth 100000 in
/-- addRule.addRule -/
theorem c_X11_addRule (l : Launch) (D : va_G) (cy : Nat → ClassId) (A : Nat → Prop) (ad sad : Nat → Nat) (X M : XF) (K : KF) (p1 p2 p3 p4 p5 : Int32) (h1 : isCh p1) (z : Nat) (hz : M 117 0 = nI z) (hzl : z ≤ 12) : Met l yX11_addRule (wsA yX11_addRule cX11_addRule 8 (some .int)) ({ frames := 4, cells := 0, slots := 0, locals := 91 }) (PcW D cy A ad sad X M K [.ref (ad 42), .int p1, .int p2, .int p3, .int p4, .int p5]) (QiW D cy A ad (fun r X1 M1 K1 => r = (if xs_rule (M 117 0) p1 p2 p3 p4 p5 = 0 then nI z else 0) ∧ X1 = X ∧ M1 = (if xs_rule (M 117 0) p1 p2 p3 p4 p5 = 0 then si (sa (sa (sa (sa (sa (si M 100 0) 63 (upd (M 63) z p1)) 64 (upd (M 64) z p2)) 65 (upd (M 65) z p3)) 66 (upd (M 66) z p4)) 67 (upd (M 67) z p5)) 117 (nI z + 1) else si M 100 (xs_rule (M 117 0) p1 p2 p3 p4 p5)) ∧ K1 = K)) 0 0 A := by
  refine met_ofW [(0, .ref (ad 42)), (1, .int p1), (2, .int p2), (3, .int p3), (4, .int p4), (5, .int p5)] (by decide +kernel) (Nat.le_of_ble_eq_true rfl) rfl ?_
  intro G C hl hR hL hD hcy hA had hsa hr hQ
  subst hD hcy hA had hsa hl
  refine g_aload_n C dX11_addRule_0 0 rfl ?_
  refine g_iconst C dX11_addRule_1 (v := 0) (by decide) ?_
  refine pf_X11_thrown C tw1243 dX11_addRule_2 ?_
  refine g_kldc C dX11_addRule_5 ?_
  refine g_iload_n C dX11_addRule_7 1 rfl ?_
  refine g_callKiP C rfl (c_J0_indexOf_0f7a4 _ _ _ _ _ _ _) tw1514 tw1515 tw1516 tw14 tw1517 rfl ⟨by decide +kernel, by decide +kernel, rfl⟩ ⟨rfl, rfl⟩ (by rw [hR]; decide) (Nat.le_of_ble_eq_true rfl) dX11_addRule_8 (by rw [hR]; decide) (fun r_1 h_2 => ?_)
  have er_1 := h_2
  refine g_if_lt C dX11_addRule_11 (tgt := 18) (by decide) (fun c_11 => ?_) (fun c_11 => ?_)
  · try simp only [sa_ap, si_ap, reduceIte, Nat.reduceEqDiff, up_us, lg_cmp_lt, lg_cmp_gt, lg_cmp_le, lg_cmp_ge] at c_11
    refine g_iconst C dX11_addRule_18 (v := 0) (by decide) ?_
    refine g_istore C dX11_addRule_19 (L' := [(6, .int 0), (0, .ref (gad G 42)), (1, .int p1), (2, .int p2), (3, .int p3), (4, .int p4), (5, .int p5)]) rfl (by rw [hL]; decide) ?_
    refine g_iload_n C dX11_addRule_21 2 rfl ?_
    refine g_bipush C dX11_addRule_22 (v := 116) (by decide) ?_
    refine g_icmp_eq C dX11_addRule_24 (tgt := 39) (by decide) (fun c_24 => ?_) (fun c_24 => ?_)
    · try simp only [sa_ap, si_ap, reduceIte, Nat.reduceEqDiff, up_us, lg_cmp_lt, lg_cmp_gt, lg_cmp_le, lg_cmp_ge] at c_24
      replace c_24 := eq_true c_24
      refine g_iload_n C dX11_addRule_39 3 rfl ?_
      refine g_i2l C dX11_addRule_40 ?_
      refine g_lconst C dX11_addRule_41 (v := 0) (by decide) ?_
      refine g_iload_n C dX11_addRule_42 2 rfl ?_
      refine g_bipush C dX11_addRule_43 (v := 103) (by decide) ?_
      refine g_icmp_ne C dX11_addRule_45 (tgt := 54) (by decide) (fun c_45 => ?_) (fun c_45 => absurd c_45 (by rw [of_eq_true c_24]; decide))
      refine g_ldc2 C dX11_addRule_54 tw1405 ?_
      refine g_callSiW C dX11_addRule_57 (c_X11_in _ _ _ _ _ _ _ _ _ _ _ _) tw1406 tw1407 tw16 tw1408 rfl ⟨by decide +kernel, by decide +kernel, rfl⟩ ⟨rfl, rfl⟩ (by rw [hR]; decide) (Nat.le_of_ble_eq_true rfl) (by rw [hR]; decide) (fun r_3 X1 M1 K1 h_4 => ?_)
      obtain ⟨er_3, hX1, hM1, hK1⟩ := h_4
      subst X1 M1 K1
      try simp only [sa_ap, si_ap, reduceIte, Nat.reduceEqDiff] at er_3
      refine g_if_eq C dX11_addRule_60 (tgt := 67) (by decide) (fun c_60 => ?_) (fun c_60 => ?_)
      · try simp only [sa_ap, si_ap, reduceIte, Nat.reduceEqDiff, up_us, lg_cmp_lt, lg_cmp_gt, lg_cmp_le, lg_cmp_ge] at c_60
        refine g_iconst C dX11_addRule_67 (v := 0) (by decide) ?_
        refine g_istore C dX11_addRule_68 (L' := [(7, .int 0), (6, .int 0), (0, .ref (gad G 42)), (1, .int p1), (2, .int p2), (3, .int p3), (4, .int p4), (5, .int p5)]) rfl (by rw [hL]; decide) ?_
        refine g_aload_n C dX11_addRule_70 2 rfl ?_
        refine g_iload C dX11_addRule_71 1 rfl ?_
        refine g_if_eq C dX11_addRule_73 (tgt := 100) (by decide) (fun c_73 => ?_) (fun c_73 => absurd (by decide) c_73)
        refine g_iconst C dX11_addRule_100 (v := 1) (by decide) ?_
        refine g_goto C dX11_addRule_101 (tgt := 105) (by decide) ?_
        refine g_iconst C dX11_addRule_105 (v := 1) (by decide) ?_
        refine g_callViW C dX11_addRule_106 (c_X11_fails_1 _ _ _ _ _ _ _ _ _ _ (by rfl) (by decide)) tw1412 tw1414 tp14 tw16 tw1415 (rv_X11 C) rfl ⟨by decide +kernel, by decide +kernel, rfl⟩ ⟨rfl, rfl⟩ (by rw [hR]; decide) (Nat.le_of_ble_eq_true rfl) (by rw [hR]; decide) (fun r_5 X1 M1 K1 h_6 => ?_)
        obtain ⟨rfl, hX1, hM1, hK1⟩ := h_6
        subst X1 M1 K1
        refine g_if_ne C dX11_addRule_109 (tgt := 134) (by decide) (fun c_109 => ?_) (fun c_109 => absurd c_109 (by decide))
        refine g_iconst C dX11_addRule_134 (v := 0) (by decide) ?_
        refine g_iretW C hr hQ (Nat.le_refl _) (Nat.le_refl _) dX11_addRule_135 ?_
        exact ⟨(by first | with_reducible rfl | (subst er_1 er_3; first | with_reducible rfl | (simp only [sa_ap, si_ap, si_sa, sa_sa, sa_3, sa_4, sa_5, sa_6, sa_7, sa_8, xs_rule, ab_ok, hz, up_us, up_up, xs_b, c_11, c_24, c_60]; done) | (simp [sa_ap, si_ap, si_sa, sa_sa, sa_3, sa_4, sa_5, sa_6, sa_7, sa_8, xs_rule, ab_ok, hz, up_us, up_up, xs_b, c_11, c_24, c_60]; done))), rfl, (by first | with_reducible rfl | (subst er_1 er_3; first | with_reducible rfl | (simp only [sa_ap, si_ap, si_sa, sa_sa, sa_3, sa_4, sa_5, sa_6, sa_7, sa_8, xs_rule, ab_ok, hz, up_us, up_up, xs_b, c_11, c_24, c_60]; done) | (simp [sa_ap, si_ap, si_sa, sa_sa, sa_3, sa_4, sa_5, sa_6, sa_7, sa_8, xs_rule, ab_ok, hz, up_us, up_up, xs_b, c_11, c_24, c_60]; done))), rfl⟩
      · try simp only [sa_ap, si_ap, reduceIte, Nat.reduceEqDiff, up_us, lg_cmp_lt, lg_cmp_gt, lg_cmp_le, lg_cmp_ge] at c_60
        refine g_iconst C dX11_addRule_63 (v := 1) (by decide) ?_
        refine g_goto C dX11_addRule_64 (tgt := 68) (by decide) ?_
        refine g_istore C dX11_addRule_68 (L' := [(7, .int 1), (6, .int 0), (0, .ref (gad G 42)), (1, .int p1), (2, .int p2), (3, .int p3), (4, .int p4), (5, .int p5)]) rfl (by rw [hL]; decide) ?_
        refine g_aload_n C dX11_addRule_70 2 rfl ?_
        refine g_iload C dX11_addRule_71 1 rfl ?_
        refine g_if_eq C dX11_addRule_73 (tgt := 100) (by decide) (fun c_73 => ?_) (fun c_73 => absurd (by decide) c_73)
        refine g_iconst C dX11_addRule_100 (v := 1) (by decide) ?_
        refine g_goto C dX11_addRule_101 (tgt := 105) (by decide) ?_
        refine g_iconst C dX11_addRule_105 (v := 1) (by decide) ?_
        refine g_callViW C dX11_addRule_106 (c_X11_fails_1 _ _ _ _ _ _ _ _ _ _ (by rfl) (by decide)) tw1412 tw1414 tp14 tw16 tw1415 (rv_X11 C) rfl ⟨by decide +kernel, by decide +kernel, rfl⟩ ⟨rfl, rfl⟩ (by rw [hR]; decide) (Nat.le_of_ble_eq_true rfl) (by rw [hR]; decide) (fun r_7 X1 M1 K1 h_8 => ?_)
        obtain ⟨rfl, hX1, hM1, hK1⟩ := h_8
        subst X1 M1 K1
        refine g_if_ne C dX11_addRule_109 (tgt := 134) (by decide) (fun c_109 => ?_) (fun c_109 => absurd c_109 (by decide))
        refine g_iconst C dX11_addRule_134 (v := 0) (by decide) ?_
        refine g_iretW C hr hQ (Nat.le_refl _) (Nat.le_refl _) dX11_addRule_135 ?_
        exact ⟨(by first | with_reducible rfl | (subst er_1 er_3; first | with_reducible rfl | (simp only [sa_ap, si_ap, si_sa, sa_sa, sa_3, sa_4, sa_5, sa_6, sa_7, sa_8, xs_rule, ab_ok, hz, up_us, up_up, xs_b, c_11, c_24, c_60]; done) | (simp [sa_ap, si_ap, si_sa, sa_sa, sa_3, sa_4, sa_5, sa_6, sa_7, sa_8, xs_rule, ab_ok, hz, up_us, up_up, xs_b, c_11, c_24, c_60]; done))), rfl, (by first | with_reducible rfl | (subst er_1 er_3; first | with_reducible rfl | (simp only [sa_ap, si_ap, si_sa, sa_sa, sa_3, sa_4, sa_5, sa_6, sa_7, sa_8, xs_rule, ab_ok, hz, up_us, up_up, xs_b, c_11, c_24, c_60]; done) | (simp [sa_ap, si_ap, si_sa, sa_sa, sa_3, sa_4, sa_5, sa_6, sa_7, sa_8, xs_rule, ab_ok, hz, up_us, up_up, xs_b, c_11, c_24, c_60]; done))), rfl⟩
    · try simp only [sa_ap, si_ap, reduceIte, Nat.reduceEqDiff, up_us, lg_cmp_lt, lg_cmp_gt, lg_cmp_le, lg_cmp_ge] at c_24
      refine g_iload_n C dX11_addRule_27 2 rfl ?_
      refine g_bipush C dX11_addRule_28 (v := 115) (by decide) ?_
      refine g_icmp_eq C dX11_addRule_30 (tgt := 39) (by decide) (fun c_30 => ?_) (fun c_30 => ?_)
      · try simp only [sa_ap, si_ap, reduceIte, Nat.reduceEqDiff, up_us, lg_cmp_lt, lg_cmp_gt, lg_cmp_le, lg_cmp_ge] at c_30
        replace c_30 := eq_true c_30
        refine g_iload_n C dX11_addRule_39 3 rfl ?_
        refine g_i2l C dX11_addRule_40 ?_
        refine g_lconst C dX11_addRule_41 (v := 0) (by decide) ?_
        refine g_iload_n C dX11_addRule_42 2 rfl ?_
        refine g_bipush C dX11_addRule_43 (v := 103) (by decide) ?_
        refine g_icmp_ne C dX11_addRule_45 (tgt := 54) (by decide) (fun c_45 => ?_) (fun c_45 => absurd c_45 (by rw [of_eq_true c_30]; decide))
        refine g_ldc2 C dX11_addRule_54 tw1405 ?_
        refine g_callSiW C dX11_addRule_57 (c_X11_in _ _ _ _ _ _ _ _ _ _ _ _) tw1406 tw1407 tw16 tw1408 rfl ⟨by decide +kernel, by decide +kernel, rfl⟩ ⟨rfl, rfl⟩ (by rw [hR]; decide) (Nat.le_of_ble_eq_true rfl) (by rw [hR]; decide) (fun r_9 X1 M1 K1 h_10 => ?_)
        obtain ⟨er_9, hX1, hM1, hK1⟩ := h_10
        subst X1 M1 K1
        try simp only [sa_ap, si_ap, reduceIte, Nat.reduceEqDiff] at er_9
        refine g_if_eq C dX11_addRule_60 (tgt := 67) (by decide) (fun c_60 => ?_) (fun c_60 => ?_)
        · try simp only [sa_ap, si_ap, reduceIte, Nat.reduceEqDiff, up_us, lg_cmp_lt, lg_cmp_gt, lg_cmp_le, lg_cmp_ge] at c_60
          refine g_iconst C dX11_addRule_67 (v := 0) (by decide) ?_
          refine g_istore C dX11_addRule_68 (L' := [(7, .int 0), (6, .int 0), (0, .ref (gad G 42)), (1, .int p1), (2, .int p2), (3, .int p3), (4, .int p4), (5, .int p5)]) rfl (by rw [hL]; decide) ?_
          refine g_aload_n C dX11_addRule_70 2 rfl ?_
          refine g_iload C dX11_addRule_71 1 rfl ?_
          refine g_if_eq C dX11_addRule_73 (tgt := 100) (by decide) (fun c_73 => ?_) (fun c_73 => absurd (by decide) c_73)
          refine g_iconst C dX11_addRule_100 (v := 1) (by decide) ?_
          refine g_goto C dX11_addRule_101 (tgt := 105) (by decide) ?_
          refine g_iconst C dX11_addRule_105 (v := 1) (by decide) ?_
          refine g_callViW C dX11_addRule_106 (c_X11_fails_1 _ _ _ _ _ _ _ _ _ _ (by rfl) (by decide)) tw1412 tw1414 tp14 tw16 tw1415 (rv_X11 C) rfl ⟨by decide +kernel, by decide +kernel, rfl⟩ ⟨rfl, rfl⟩ (by rw [hR]; decide) (Nat.le_of_ble_eq_true rfl) (by rw [hR]; decide) (fun r_11 X1 M1 K1 h_12 => ?_)
          obtain ⟨rfl, hX1, hM1, hK1⟩ := h_12
          subst X1 M1 K1
          refine g_if_ne C dX11_addRule_109 (tgt := 134) (by decide) (fun c_109 => ?_) (fun c_109 => absurd c_109 (by decide))
          refine g_iconst C dX11_addRule_134 (v := 0) (by decide) ?_
          refine g_iretW C hr hQ (Nat.le_refl _) (Nat.le_refl _) dX11_addRule_135 ?_
          exact ⟨(by first | with_reducible rfl | (subst er_1 er_9; first | with_reducible rfl | (simp only [sa_ap, si_ap, si_sa, sa_sa, sa_3, sa_4, sa_5, sa_6, sa_7, sa_8, xs_rule, ab_ok, hz, up_us, up_up, xs_b, c_11, c_24, c_30, c_60]; done) | (simp [sa_ap, si_ap, si_sa, sa_sa, sa_3, sa_4, sa_5, sa_6, sa_7, sa_8, xs_rule, ab_ok, hz, up_us, up_up, xs_b, c_11, c_24, c_30, c_60]; done))), rfl, (by first | with_reducible rfl | (subst er_1 er_9; first | with_reducible rfl | (simp only [sa_ap, si_ap, si_sa, sa_sa, sa_3, sa_4, sa_5, sa_6, sa_7, sa_8, xs_rule, ab_ok, hz, up_us, up_up, xs_b, c_11, c_24, c_30, c_60]; done) | (simp [sa_ap, si_ap, si_sa, sa_sa, sa_3, sa_4, sa_5, sa_6, sa_7, sa_8, xs_rule, ab_ok, hz, up_us, up_up, xs_b, c_11, c_24, c_30, c_60]; done))), rfl⟩
        · try simp only [sa_ap, si_ap, reduceIte, Nat.reduceEqDiff, up_us, lg_cmp_lt, lg_cmp_gt, lg_cmp_le, lg_cmp_ge] at c_60
          refine g_iconst C dX11_addRule_63 (v := 1) (by decide) ?_
          refine g_goto C dX11_addRule_64 (tgt := 68) (by decide) ?_
          refine g_istore C dX11_addRule_68 (L' := [(7, .int 1), (6, .int 0), (0, .ref (gad G 42)), (1, .int p1), (2, .int p2), (3, .int p3), (4, .int p4), (5, .int p5)]) rfl (by rw [hL]; decide) ?_
          refine g_aload_n C dX11_addRule_70 2 rfl ?_
          refine g_iload C dX11_addRule_71 1 rfl ?_
          refine g_if_eq C dX11_addRule_73 (tgt := 100) (by decide) (fun c_73 => ?_) (fun c_73 => absurd (by decide) c_73)
          refine g_iconst C dX11_addRule_100 (v := 1) (by decide) ?_
          refine g_goto C dX11_addRule_101 (tgt := 105) (by decide) ?_
          refine g_iconst C dX11_addRule_105 (v := 1) (by decide) ?_
          refine g_callViW C dX11_addRule_106 (c_X11_fails_1 _ _ _ _ _ _ _ _ _ _ (by rfl) (by decide)) tw1412 tw1414 tp14 tw16 tw1415 (rv_X11 C) rfl ⟨by decide +kernel, by decide +kernel, rfl⟩ ⟨rfl, rfl⟩ (by rw [hR]; decide) (Nat.le_of_ble_eq_true rfl) (by rw [hR]; decide) (fun r_13 X1 M1 K1 h_14 => ?_)
          obtain ⟨rfl, hX1, hM1, hK1⟩ := h_14
          subst X1 M1 K1
          refine g_if_ne C dX11_addRule_109 (tgt := 134) (by decide) (fun c_109 => ?_) (fun c_109 => absurd c_109 (by decide))
          refine g_iconst C dX11_addRule_134 (v := 0) (by decide) ?_
          refine g_iretW C hr hQ (Nat.le_refl _) (Nat.le_refl _) dX11_addRule_135 ?_
          exact ⟨(by first | with_reducible rfl | (subst er_1 er_9; first | with_reducible rfl | (simp only [sa_ap, si_ap, si_sa, sa_sa, sa_3, sa_4, sa_5, sa_6, sa_7, sa_8, xs_rule, ab_ok, hz, up_us, up_up, xs_b, c_11, c_24, c_30, c_60]; done) | (simp [sa_ap, si_ap, si_sa, sa_sa, sa_3, sa_4, sa_5, sa_6, sa_7, sa_8, xs_rule, ab_ok, hz, up_us, up_up, xs_b, c_11, c_24, c_30, c_60]; done))), rfl, (by first | with_reducible rfl | (subst er_1 er_9; first | with_reducible rfl | (simp only [sa_ap, si_ap, si_sa, sa_sa, sa_3, sa_4, sa_5, sa_6, sa_7, sa_8, xs_rule, ab_ok, hz, up_us, up_up, xs_b, c_11, c_24, c_30, c_60]; done) | (simp [sa_ap, si_ap, si_sa, sa_sa, sa_3, sa_4, sa_5, sa_6, sa_7, sa_8, xs_rule, ab_ok, hz, up_us, up_up, xs_b, c_11, c_24, c_30, c_60]; done))), rfl⟩
      · try simp only [sa_ap, si_ap, reduceIte, Nat.reduceEqDiff, up_us, lg_cmp_lt, lg_cmp_gt, lg_cmp_le, lg_cmp_ge] at c_30
        refine g_iload_n C dX11_addRule_33 2 rfl ?_
        refine g_bipush C dX11_addRule_34 (v := 103) (by decide) ?_
        refine g_icmp_ne C dX11_addRule_36 (tgt := 63) (by decide) (fun c_36 => ?_) (fun c_36 => ?_)
        · try simp only [sa_ap, si_ap, reduceIte, Nat.reduceEqDiff, up_us, lg_cmp_lt, lg_cmp_gt, lg_cmp_le, lg_cmp_ge] at c_36
          refine g_iconst C dX11_addRule_63 (v := 1) (by decide) ?_
          refine g_goto C dX11_addRule_64 (tgt := 68) (by decide) ?_
          refine g_istore C dX11_addRule_68 (L' := [(7, .int 1), (6, .int 0), (0, .ref (gad G 42)), (1, .int p1), (2, .int p2), (3, .int p3), (4, .int p4), (5, .int p5)]) rfl (by rw [hL]; decide) ?_
          refine g_aload_n C dX11_addRule_70 2 rfl ?_
          refine g_iload C dX11_addRule_71 1 rfl ?_
          refine g_if_eq C dX11_addRule_73 (tgt := 100) (by decide) (fun c_73 => ?_) (fun c_73 => absurd (by decide) c_73)
          refine g_iconst C dX11_addRule_100 (v := 1) (by decide) ?_
          refine g_goto C dX11_addRule_101 (tgt := 105) (by decide) ?_
          refine g_iconst C dX11_addRule_105 (v := 1) (by decide) ?_
          refine g_callViW C dX11_addRule_106 (c_X11_fails_1 _ _ _ _ _ _ _ _ _ _ (by rfl) (by decide)) tw1412 tw1414 tp14 tw16 tw1415 (rv_X11 C) rfl ⟨by decide +kernel, by decide +kernel, rfl⟩ ⟨rfl, rfl⟩ (by rw [hR]; decide) (Nat.le_of_ble_eq_true rfl) (by rw [hR]; decide) (fun r_15 X1 M1 K1 h_16 => ?_)
          obtain ⟨rfl, hX1, hM1, hK1⟩ := h_16
          subst X1 M1 K1
          refine g_if_ne C dX11_addRule_109 (tgt := 134) (by decide) (fun c_109 => ?_) (fun c_109 => absurd c_109 (by decide))
          refine g_iconst C dX11_addRule_134 (v := 0) (by decide) ?_
          refine g_iretW C hr hQ (Nat.le_refl _) (Nat.le_refl _) dX11_addRule_135 ?_
          exact ⟨(by first | with_reducible rfl | (subst er_1; first | with_reducible rfl | (simp only [sa_ap, si_ap, si_sa, sa_sa, sa_3, sa_4, sa_5, sa_6, sa_7, sa_8, xs_rule, ab_ok, hz, up_us, up_up, xs_b, c_11, c_24, c_30, c_36]; done) | (simp [sa_ap, si_ap, si_sa, sa_sa, sa_3, sa_4, sa_5, sa_6, sa_7, sa_8, xs_rule, ab_ok, hz, up_us, up_up, xs_b, c_11, c_24, c_30, c_36]; done))), rfl, (by first | with_reducible rfl | (subst er_1; first | with_reducible rfl | (simp only [sa_ap, si_ap, si_sa, sa_sa, sa_3, sa_4, sa_5, sa_6, sa_7, sa_8, xs_rule, ab_ok, hz, up_us, up_up, xs_b, c_11, c_24, c_30, c_36]; done) | (simp [sa_ap, si_ap, si_sa, sa_sa, sa_3, sa_4, sa_5, sa_6, sa_7, sa_8, xs_rule, ab_ok, hz, up_us, up_up, xs_b, c_11, c_24, c_30, c_36]; done))), rfl⟩
        · try simp only [sa_ap, si_ap, reduceIte, Nat.reduceEqDiff, up_us, lg_cmp_lt, lg_cmp_gt, lg_cmp_le, lg_cmp_ge] at c_36
          replace c_36 := eq_true c_36
          refine g_iload_n C dX11_addRule_39 3 rfl ?_
          refine g_i2l C dX11_addRule_40 ?_
          refine g_lconst C dX11_addRule_41 (v := 0) (by decide) ?_
          refine g_iload_n C dX11_addRule_42 2 rfl ?_
          refine g_bipush C dX11_addRule_43 (v := 103) (by decide) ?_
          refine g_icmp_ne C dX11_addRule_45 (tgt := 54) (by decide) (fun c_45 => absurd c_45 (fun q => q (of_eq_true c_36))) (fun c_45 => ?_)
          refine g_ldc2 C dX11_addRule_48 tw1573 ?_
          refine g_goto C dX11_addRule_51 (tgt := 57) (by decide) ?_
          refine g_callSiW C dX11_addRule_57 (c_X11_in _ _ _ _ _ _ _ _ _ _ _ _) tw1406 tw1407 tw16 tw1408 rfl ⟨by decide +kernel, by decide +kernel, rfl⟩ ⟨rfl, rfl⟩ (by rw [hR]; decide) (Nat.le_of_ble_eq_true rfl) (by rw [hR]; decide) (fun r_17 X1 M1 K1 h_18 => ?_)
          obtain ⟨er_17, hX1, hM1, hK1⟩ := h_18
          subst X1 M1 K1
          try simp only [sa_ap, si_ap, reduceIte, Nat.reduceEqDiff] at er_17
          refine g_if_eq C dX11_addRule_60 (tgt := 67) (by decide) (fun c_60 => ?_) (fun c_60 => ?_)
          · try simp only [sa_ap, si_ap, reduceIte, Nat.reduceEqDiff, up_us, lg_cmp_lt, lg_cmp_gt, lg_cmp_le, lg_cmp_ge] at c_60
            refine g_iconst C dX11_addRule_67 (v := 0) (by decide) ?_
            refine g_istore C dX11_addRule_68 (L' := [(7, .int 0), (6, .int 0), (0, .ref (gad G 42)), (1, .int p1), (2, .int p2), (3, .int p3), (4, .int p4), (5, .int p5)]) rfl (by rw [hL]; decide) ?_
            refine g_aload_n C dX11_addRule_70 2 rfl ?_
            refine g_iload C dX11_addRule_71 1 rfl ?_
            refine g_if_eq C dX11_addRule_73 (tgt := 100) (by decide) (fun c_73 => ?_) (fun c_73 => absurd (by decide) c_73)
            refine g_iconst C dX11_addRule_100 (v := 1) (by decide) ?_
            refine g_goto C dX11_addRule_101 (tgt := 105) (by decide) ?_
            refine g_iconst C dX11_addRule_105 (v := 1) (by decide) ?_
            refine g_callViW C dX11_addRule_106 (c_X11_fails_1 _ _ _ _ _ _ _ _ _ _ (by rfl) (by decide)) tw1412 tw1414 tp14 tw16 tw1415 (rv_X11 C) rfl ⟨by decide +kernel, by decide +kernel, rfl⟩ ⟨rfl, rfl⟩ (by rw [hR]; decide) (Nat.le_of_ble_eq_true rfl) (by rw [hR]; decide) (fun r_19 X1 M1 K1 h_20 => ?_)
            obtain ⟨rfl, hX1, hM1, hK1⟩ := h_20
            subst X1 M1 K1
            refine g_if_ne C dX11_addRule_109 (tgt := 134) (by decide) (fun c_109 => ?_) (fun c_109 => absurd c_109 (by decide))
            refine g_iconst C dX11_addRule_134 (v := 0) (by decide) ?_
            refine g_iretW C hr hQ (Nat.le_refl _) (Nat.le_refl _) dX11_addRule_135 ?_
            exact ⟨(by first | with_reducible rfl | (subst er_1 er_17; first | with_reducible rfl | (simp only [sa_ap, si_ap, si_sa, sa_sa, sa_3, sa_4, sa_5, sa_6, sa_7, sa_8, xs_rule, ab_ok, hz, up_us, up_up, xs_b, c_11, c_24, c_30, c_36, c_60]; done) | (simp [sa_ap, si_ap, si_sa, sa_sa, sa_3, sa_4, sa_5, sa_6, sa_7, sa_8, xs_rule, ab_ok, hz, up_us, up_up, xs_b, c_11, c_24, c_30, c_36, c_60]; done))), rfl, (by first | with_reducible rfl | (subst er_1 er_17; first | with_reducible rfl | (simp only [sa_ap, si_ap, si_sa, sa_sa, sa_3, sa_4, sa_5, sa_6, sa_7, sa_8, xs_rule, ab_ok, hz, up_us, up_up, xs_b, c_11, c_24, c_30, c_36, c_60]; done) | (simp [sa_ap, si_ap, si_sa, sa_sa, sa_3, sa_4, sa_5, sa_6, sa_7, sa_8, xs_rule, ab_ok, hz, up_us, up_up, xs_b, c_11, c_24, c_30, c_36, c_60]; done))), rfl⟩
          · try simp only [sa_ap, si_ap, reduceIte, Nat.reduceEqDiff, up_us, lg_cmp_lt, lg_cmp_gt, lg_cmp_le, lg_cmp_ge] at c_60
            refine g_iconst C dX11_addRule_63 (v := 1) (by decide) ?_
            refine g_goto C dX11_addRule_64 (tgt := 68) (by decide) ?_
            refine g_istore C dX11_addRule_68 (L' := [(7, .int 1), (6, .int 0), (0, .ref (gad G 42)), (1, .int p1), (2, .int p2), (3, .int p3), (4, .int p4), (5, .int p5)]) rfl (by rw [hL]; decide) ?_
            refine g_aload_n C dX11_addRule_70 2 rfl ?_
            refine g_iload C dX11_addRule_71 1 rfl ?_
            refine g_if_eq C dX11_addRule_73 (tgt := 100) (by decide) (fun c_73 => ?_) (fun c_73 => absurd (by decide) c_73)
            refine g_iconst C dX11_addRule_100 (v := 1) (by decide) ?_
            refine g_goto C dX11_addRule_101 (tgt := 105) (by decide) ?_
            refine g_iconst C dX11_addRule_105 (v := 1) (by decide) ?_
            refine g_callViW C dX11_addRule_106 (c_X11_fails_1 _ _ _ _ _ _ _ _ _ _ (by rfl) (by decide)) tw1412 tw1414 tp14 tw16 tw1415 (rv_X11 C) rfl ⟨by decide +kernel, by decide +kernel, rfl⟩ ⟨rfl, rfl⟩ (by rw [hR]; decide) (Nat.le_of_ble_eq_true rfl) (by rw [hR]; decide) (fun r_21 X1 M1 K1 h_22 => ?_)
            obtain ⟨rfl, hX1, hM1, hK1⟩ := h_22
            subst X1 M1 K1
            refine g_if_ne C dX11_addRule_109 (tgt := 134) (by decide) (fun c_109 => ?_) (fun c_109 => absurd c_109 (by decide))
            refine g_iconst C dX11_addRule_134 (v := 0) (by decide) ?_
            refine g_iretW C hr hQ (Nat.le_refl _) (Nat.le_refl _) dX11_addRule_135 ?_
            exact ⟨(by first | with_reducible rfl | (subst er_1 er_17; first | with_reducible rfl | (simp only [sa_ap, si_ap, si_sa, sa_sa, sa_3, sa_4, sa_5, sa_6, sa_7, sa_8, xs_rule, ab_ok, hz, up_us, up_up, xs_b, c_11, c_24, c_30, c_36, c_60]; done) | (simp [sa_ap, si_ap, si_sa, sa_sa, sa_3, sa_4, sa_5, sa_6, sa_7, sa_8, xs_rule, ab_ok, hz, up_us, up_up, xs_b, c_11, c_24, c_30, c_36, c_60]; done))), rfl, (by first | with_reducible rfl | (subst er_1 er_17; first | with_reducible rfl | (simp only [sa_ap, si_ap, si_sa, sa_sa, sa_3, sa_4, sa_5, sa_6, sa_7, sa_8, xs_rule, ab_ok, hz, up_us, up_up, xs_b, c_11, c_24, c_30, c_36, c_60]; done) | (simp [sa_ap, si_ap, si_sa, sa_sa, sa_3, sa_4, sa_5, sa_6, sa_7, sa_8, xs_rule, ab_ok, hz, up_us, up_up, xs_b, c_11, c_24, c_30, c_36, c_60]; done))), rfl⟩
  · try simp only [sa_ap, si_ap, reduceIte, Nat.reduceEqDiff, up_us, lg_cmp_lt, lg_cmp_gt, lg_cmp_le, lg_cmp_ge] at c_11
    refine g_iconst C dX11_addRule_14 (v := 1) (by decide) ?_
    refine g_goto C dX11_addRule_15 (tgt := 19) (by decide) ?_
    refine g_istore C dX11_addRule_19 (L' := [(6, .int 1), (0, .ref (gad G 42)), (1, .int p1), (2, .int p2), (3, .int p3), (4, .int p4), (5, .int p5)]) rfl (by rw [hL]; decide) ?_
    refine g_iload_n C dX11_addRule_21 2 rfl ?_
    refine g_bipush C dX11_addRule_22 (v := 116) (by decide) ?_
    refine g_icmp_eq C dX11_addRule_24 (tgt := 39) (by decide) (fun c_24 => ?_) (fun c_24 => ?_)
    · try simp only [sa_ap, si_ap, reduceIte, Nat.reduceEqDiff, up_us, lg_cmp_lt, lg_cmp_gt, lg_cmp_le, lg_cmp_ge] at c_24
      replace c_24 := eq_true c_24
      refine g_iload_n C dX11_addRule_39 3 rfl ?_
      refine g_i2l C dX11_addRule_40 ?_
      refine g_lconst C dX11_addRule_41 (v := 0) (by decide) ?_
      refine g_iload_n C dX11_addRule_42 2 rfl ?_
      refine g_bipush C dX11_addRule_43 (v := 103) (by decide) ?_
      refine g_icmp_ne C dX11_addRule_45 (tgt := 54) (by decide) (fun c_45 => ?_) (fun c_45 => absurd c_45 (by rw [of_eq_true c_24]; decide))
      refine g_ldc2 C dX11_addRule_54 tw1405 ?_
      refine g_callSiW C dX11_addRule_57 (c_X11_in _ _ _ _ _ _ _ _ _ _ _ _) tw1406 tw1407 tw16 tw1408 rfl ⟨by decide +kernel, by decide +kernel, rfl⟩ ⟨rfl, rfl⟩ (by rw [hR]; decide) (Nat.le_of_ble_eq_true rfl) (by rw [hR]; decide) (fun r_23 X1 M1 K1 h_24 => ?_)
      obtain ⟨er_23, hX1, hM1, hK1⟩ := h_24
      subst X1 M1 K1
      try simp only [sa_ap, si_ap, reduceIte, Nat.reduceEqDiff] at er_23
      refine g_if_eq C dX11_addRule_60 (tgt := 67) (by decide) (fun c_60 => ?_) (fun c_60 => ?_)
      · try simp only [sa_ap, si_ap, reduceIte, Nat.reduceEqDiff, up_us, lg_cmp_lt, lg_cmp_gt, lg_cmp_le, lg_cmp_ge] at c_60
        refine g_iconst C dX11_addRule_67 (v := 0) (by decide) ?_
        refine g_istore C dX11_addRule_68 (L' := [(7, .int 0), (6, .int 1), (0, .ref (gad G 42)), (1, .int p1), (2, .int p2), (3, .int p3), (4, .int p4), (5, .int p5)]) rfl (by rw [hL]; decide) ?_
        refine g_aload_n C dX11_addRule_70 2 rfl ?_
        refine g_iload C dX11_addRule_71 1 rfl ?_
        refine g_if_eq C dX11_addRule_73 (tgt := 100) (by decide) (fun c_73 => absurd c_73 (by decide)) (fun c_73 => ?_)
        refine g_iload C dX11_addRule_76 0 rfl ?_
        refine g_if_eq C dX11_addRule_78 (tgt := 100) (by decide) (fun c_78 => ?_) (fun c_78 => absurd (by decide) c_78)
        refine g_iconst C dX11_addRule_100 (v := 1) (by decide) ?_
        refine g_goto C dX11_addRule_101 (tgt := 105) (by decide) ?_
        refine g_iconst C dX11_addRule_105 (v := 1) (by decide) ?_
        refine g_callViW C dX11_addRule_106 (c_X11_fails_1 _ _ _ _ _ _ _ _ _ _ (by rfl) (by decide)) tw1412 tw1414 tp14 tw16 tw1415 (rv_X11 C) rfl ⟨by decide +kernel, by decide +kernel, rfl⟩ ⟨rfl, rfl⟩ (by rw [hR]; decide) (Nat.le_of_ble_eq_true rfl) (by rw [hR]; decide) (fun r_25 X1 M1 K1 h_26 => ?_)
        obtain ⟨rfl, hX1, hM1, hK1⟩ := h_26
        subst X1 M1 K1
        refine g_if_ne C dX11_addRule_109 (tgt := 134) (by decide) (fun c_109 => ?_) (fun c_109 => absurd c_109 (by decide))
        refine g_iconst C dX11_addRule_134 (v := 0) (by decide) ?_
        refine g_iretW C hr hQ (Nat.le_refl _) (Nat.le_refl _) dX11_addRule_135 ?_
        exact ⟨(by first | with_reducible rfl | (subst er_1 er_23; first | with_reducible rfl | (simp only [sa_ap, si_ap, si_sa, sa_sa, sa_3, sa_4, sa_5, sa_6, sa_7, sa_8, xs_rule, ab_ok, hz, up_us, up_up, xs_b, c_11, c_24, c_60]; done) | (simp [sa_ap, si_ap, si_sa, sa_sa, sa_3, sa_4, sa_5, sa_6, sa_7, sa_8, xs_rule, ab_ok, hz, up_us, up_up, xs_b, c_11, c_24, c_60]; done))), rfl, (by first | with_reducible rfl | (subst er_1 er_23; first | with_reducible rfl | (simp only [sa_ap, si_ap, si_sa, sa_sa, sa_3, sa_4, sa_5, sa_6, sa_7, sa_8, xs_rule, ab_ok, hz, up_us, up_up, xs_b, c_11, c_24, c_60]; done) | (simp [sa_ap, si_ap, si_sa, sa_sa, sa_3, sa_4, sa_5, sa_6, sa_7, sa_8, xs_rule, ab_ok, hz, up_us, up_up, xs_b, c_11, c_24, c_60]; done))), rfl⟩
      · try simp only [sa_ap, si_ap, reduceIte, Nat.reduceEqDiff, up_us, lg_cmp_lt, lg_cmp_gt, lg_cmp_le, lg_cmp_ge] at c_60
        refine g_iconst C dX11_addRule_63 (v := 1) (by decide) ?_
        refine g_goto C dX11_addRule_64 (tgt := 68) (by decide) ?_
        refine g_istore C dX11_addRule_68 (L' := [(7, .int 1), (6, .int 1), (0, .ref (gad G 42)), (1, .int p1), (2, .int p2), (3, .int p3), (4, .int p4), (5, .int p5)]) rfl (by rw [hL]; decide) ?_
        refine g_aload_n C dX11_addRule_70 2 rfl ?_
        refine g_iload C dX11_addRule_71 1 rfl ?_
        refine g_if_eq C dX11_addRule_73 (tgt := 100) (by decide) (fun c_73 => absurd c_73 (by decide)) (fun c_73 => ?_)
        refine g_iload C dX11_addRule_76 0 rfl ?_
        refine g_if_eq C dX11_addRule_78 (tgt := 100) (by decide) (fun c_78 => absurd c_78 (by decide)) (fun c_78 => ?_)
        refine g_iload_n C dX11_addRule_81 5 rfl ?_
        refine g_iload C dX11_addRule_82 6 rfl ?_
        refine g_icmp_gt C dX11_addRule_84 (tgt := 100) (by decide) (fun c_84 => ?_) (fun c_84 => ?_)
        · try simp only [sa_ap, si_ap, reduceIte, Nat.reduceEqDiff, up_us, lg_cmp_lt, lg_cmp_gt, lg_cmp_le, lg_cmp_ge] at c_84
          refine g_iconst C dX11_addRule_100 (v := 1) (by decide) ?_
          refine g_goto C dX11_addRule_101 (tgt := 105) (by decide) ?_
          refine g_iconst C dX11_addRule_105 (v := 1) (by decide) ?_
          refine g_callViW C dX11_addRule_106 (c_X11_fails_1 _ _ _ _ _ _ _ _ _ _ (by rfl) (by decide)) tw1412 tw1414 tp14 tw16 tw1415 (rv_X11 C) rfl ⟨by decide +kernel, by decide +kernel, rfl⟩ ⟨rfl, rfl⟩ (by rw [hR]; decide) (Nat.le_of_ble_eq_true rfl) (by rw [hR]; decide) (fun r_27 X1 M1 K1 h_28 => ?_)
          obtain ⟨rfl, hX1, hM1, hK1⟩ := h_28
          subst X1 M1 K1
          refine g_if_ne C dX11_addRule_109 (tgt := 134) (by decide) (fun c_109 => ?_) (fun c_109 => absurd c_109 (by decide))
          refine g_iconst C dX11_addRule_134 (v := 0) (by decide) ?_
          refine g_iretW C hr hQ (Nat.le_refl _) (Nat.le_refl _) dX11_addRule_135 ?_
          exact ⟨(by first | with_reducible rfl | (subst er_1 er_23; first | with_reducible rfl | (simp only [sa_ap, si_ap, si_sa, sa_sa, sa_3, sa_4, sa_5, sa_6, sa_7, sa_8, xs_rule, ab_ok, hz, up_us, up_up, xs_b, c_11, c_24, c_60, c_84]; done) | (simp [sa_ap, si_ap, si_sa, sa_sa, sa_3, sa_4, sa_5, sa_6, sa_7, sa_8, xs_rule, ab_ok, hz, up_us, up_up, xs_b, c_11, c_24, c_60, c_84]; done))), rfl, (by first | with_reducible rfl | (subst er_1 er_23; first | with_reducible rfl | (simp only [sa_ap, si_ap, si_sa, sa_sa, sa_3, sa_4, sa_5, sa_6, sa_7, sa_8, xs_rule, ab_ok, hz, up_us, up_up, xs_b, c_11, c_24, c_60, c_84]; done) | (simp [sa_ap, si_ap, si_sa, sa_sa, sa_3, sa_4, sa_5, sa_6, sa_7, sa_8, xs_rule, ab_ok, hz, up_us, up_up, xs_b, c_11, c_24, c_60, c_84]; done))), rfl⟩
        · try simp only [sa_ap, si_ap, reduceIte, Nat.reduceEqDiff, up_us, lg_cmp_lt, lg_cmp_gt, lg_cmp_le, lg_cmp_ge] at c_84
          refine g_iload C dX11_addRule_87 7 rfl ?_
          refine g_i2l C dX11_addRule_89 ?_
          refine g_lconst C dX11_addRule_90 (v := 0) (by decide) ?_
          refine g_ldc2 C dX11_addRule_91 tw1435 ?_
          refine g_callSiW C dX11_addRule_94 (c_X11_in _ _ _ _ _ _ _ _ _ _ _ _) tw1406 tw1407 tw16 tw1408 rfl ⟨by decide +kernel, by decide +kernel, rfl⟩ ⟨rfl, rfl⟩ (by rw [hR]; decide) (Nat.le_of_ble_eq_true rfl) (by rw [hR]; decide) (fun r_29 X1 M1 K1 h_30 => ?_)
          obtain ⟨er_29, hX1, hM1, hK1⟩ := h_30
          subst X1 M1 K1
          try simp only [sa_ap, si_ap, reduceIte, Nat.reduceEqDiff] at er_29
          refine g_if_ne C dX11_addRule_97 (tgt := 104) (by decide) (fun c_97 => ?_) (fun c_97 => ?_)
          · try simp only [sa_ap, si_ap, reduceIte, Nat.reduceEqDiff, up_us, lg_cmp_lt, lg_cmp_gt, lg_cmp_le, lg_cmp_ge] at c_97
            refine g_iconst C dX11_addRule_104 (v := 0) (by decide) ?_
            refine g_iconst C dX11_addRule_105 (v := 1) (by decide) ?_
            refine g_callViW C dX11_addRule_106 (c_X11_fails_0 _ _ _ _ _ _ _ _ _ _ (by rfl)) tw1412 tw1414 tp14 tw16 tw1415 (rv_X11 C) rfl ⟨by decide +kernel, by decide +kernel, rfl⟩ ⟨rfl, rfl⟩ (by rw [hR]; decide) (Nat.le_of_ble_eq_true rfl) (by rw [hR]; decide) (fun r_31 X1 M1 K1 h_32 => ?_)
            obtain ⟨rfl, hX1, hM1, hK1⟩ := h_32
            subst X1 M1 K1
            refine g_if_ne C dX11_addRule_109 (tgt := 134) (by decide) (fun c_109 => absurd c_109 (by decide)) (fun c_109 => ?_)
            refine g_aload_n C dX11_addRule_112 2 rfl ?_
            refine g_aload_n C dX11_addRule_113 2 rfl ?_
            refine gf_X11_rules C tw1282 dX11_addRule_114 ?_
            refine g_topi hz ?_
            refine g_bipush C dX11_addRule_117 (v := 12) (by decide) ?_
            refine g_icmp_ne C dX11_addRule_119 (tgt := 126) (by decide) (fun c_119 => ?_) (fun c_119 => ?_)
            · try simp only [sa_ap, si_ap, reduceIte, Nat.reduceEqDiff, up_us, lg_cmp_lt, lg_cmp_gt, lg_cmp_le, lg_cmp_ge] at c_119
              have hlt : z < 12 := Nat.lt_of_le_of_ne hzl (fun q => c_119 (by rw [q]; rfl))
              refine g_iconst C dX11_addRule_126 (v := 0) (by decide) ?_
              refine g_iconst C dX11_addRule_127 (v := 2) (by decide) ?_
              refine g_callViW C dX11_addRule_128 (c_X11_fails_0 _ _ _ _ _ _ _ _ _ _ (by rfl)) tw1412 tw1414 tp14 tw16 tw1415 (rv_X11 C) rfl ⟨by decide +kernel, by decide +kernel, rfl⟩ ⟨rfl, rfl⟩ (by rw [hR]; decide) (Nat.le_of_ble_eq_true rfl) (by rw [hR]; decide) (fun r_33 X1 M1 K1 h_34 => ?_)
              obtain ⟨rfl, hX1, hM1, hK1⟩ := h_34
              subst X1 M1 K1
              refine g_if_eq C dX11_addRule_131 (tgt := 136) (by decide) (fun c_131 => ?_) (fun c_131 => absurd (by decide) c_131)
              refine g_aload_n C dX11_addRule_136 2 rfl ?_
              refine gf_X11_kind C tw1283 dX11_addRule_137 ?_
              refine g_aload_n C dX11_addRule_140 2 rfl ?_
              refine gf_X11_rules C tw1282 dX11_addRule_141 ?_
              refine g_topi hz ?_
              refine g_iload_n C dX11_addRule_144 3 rfl ?_
              refine as_63 C h1 (by omega) dX11_addRule_145 ?_
              refine g_aload_n C dX11_addRule_146 2 rfl ?_
              refine gf_X11_about C tw1284 dX11_addRule_147 ?_
              refine g_aload_n C dX11_addRule_150 2 rfl ?_
              refine gf_X11_rules C tw1282 dX11_addRule_151 ?_
              refine g_topi hz ?_
              refine g_iload_n C dX11_addRule_154 4 rfl ?_
              refine as_64 C (by omega) dX11_addRule_155 ?_
              refine g_aload_n C dX11_addRule_156 2 rfl ?_
              refine gf_X11_least C tw1285 dX11_addRule_157 ?_
              refine g_aload_n C dX11_addRule_160 2 rfl ?_
              refine gf_X11_rules C tw1282 dX11_addRule_161 ?_
              refine g_topi hz ?_
              refine g_iload_n C dX11_addRule_164 5 rfl ?_
              refine as_65 C (by omega) dX11_addRule_165 ?_
              refine g_aload_n C dX11_addRule_166 2 rfl ?_
              refine gf_X11_greatest C tw1286 dX11_addRule_167 ?_
              refine g_aload_n C dX11_addRule_170 2 rfl ?_
              refine gf_X11_rules C tw1282 dX11_addRule_171 ?_
              refine g_topi hz ?_
              refine g_iload C dX11_addRule_174 6 rfl ?_
              refine as_66 C (by omega) dX11_addRule_176 ?_
              refine g_aload_n C dX11_addRule_177 2 rfl ?_
              refine gf_X11_seconds C tw1287 dX11_addRule_178 ?_
              refine g_aload_n C dX11_addRule_181 2 rfl ?_
              refine gf_X11_rules C tw1282 dX11_addRule_182 ?_
              refine g_topi hz ?_
              refine g_iload C dX11_addRule_185 7 rfl ?_
              refine as_67 C (by omega) dX11_addRule_187 ?_
              refine g_aload_n C dX11_addRule_188 2 rfl ?_
              refine g_dup C dX11_addRule_189 rfl ?_
              refine gf_X11_rules C tw1282 dX11_addRule_190 ?_
              refine g_topi hz ?_
              refine g_iconst C dX11_addRule_193 (v := 1) (by decide) ?_
              refine g_iadd C dX11_addRule_194 ?_
              refine pf_X11_rules C tw1282 dX11_addRule_195 ?_
              refine g_aload_n C dX11_addRule_198 2 rfl ?_
              refine gf_X11_rules C tw1282 dX11_addRule_199 ?_
              refine g_topi rfl ?_
              refine g_iconst C dX11_addRule_202 (v := 1) (by decide) ?_
              refine g_isub C dX11_addRule_203 ?_
              refine g_topi (y := nI z) (by show nI z + 1 - 1 = nI z; rw [nI_1, nI_pred]) ?_
              refine g_iretW C hr hQ (Nat.le_refl _) (Nat.le_refl _) dX11_addRule_204 ?_
              exact ⟨(by first | with_reducible rfl | (subst er_1 er_23 er_29; first | with_reducible rfl | (simp only [sa_ap, si_ap, si_sa, sa_sa, sa_3, sa_4, sa_5, sa_6, sa_7, sa_8, xs_rule, ab_ok, hz, up_us, up_up, xs_b, c_11, c_24, c_60, c_84, c_97, c_119]; done) | (simp [sa_ap, si_ap, si_sa, sa_sa, sa_3, sa_4, sa_5, sa_6, sa_7, sa_8, xs_rule, ab_ok, hz, up_us, up_up, xs_b, c_11, c_24, c_60, c_84, c_97, c_119]; done))), rfl, (by first | with_reducible rfl | (subst er_1 er_23 er_29; first | with_reducible rfl | (simp only [sa_ap, si_ap, si_sa, sa_sa, sa_3, sa_4, sa_5, sa_6, sa_7, sa_8, xs_rule, ab_ok, hz, up_us, up_up, xs_b, c_11, c_24, c_60, c_84, c_97, c_119]; done) | (simp [sa_ap, si_ap, si_sa, sa_sa, sa_3, sa_4, sa_5, sa_6, sa_7, sa_8, xs_rule, ab_ok, hz, up_us, up_up, xs_b, c_11, c_24, c_60, c_84, c_97, c_119]; done))), rfl⟩
            · try simp only [sa_ap, si_ap, reduceIte, Nat.reduceEqDiff, up_us, lg_cmp_lt, lg_cmp_gt, lg_cmp_le, lg_cmp_ge] at c_119
              refine g_iconst C dX11_addRule_122 (v := 1) (by decide) ?_
              refine g_goto C dX11_addRule_123 (tgt := 127) (by decide) ?_
              refine g_iconst C dX11_addRule_127 (v := 2) (by decide) ?_
              refine g_callViW C dX11_addRule_128 (c_X11_fails_1 _ _ _ _ _ _ _ _ _ _ (by rfl) (by decide)) tw1412 tw1414 tp14 tw16 tw1415 (rv_X11 C) rfl ⟨by decide +kernel, by decide +kernel, rfl⟩ ⟨rfl, rfl⟩ (by rw [hR]; decide) (Nat.le_of_ble_eq_true rfl) (by rw [hR]; decide) (fun r_35 X1 M1 K1 h_36 => ?_)
              obtain ⟨rfl, hX1, hM1, hK1⟩ := h_36
              subst X1 M1 K1
              refine g_if_eq C dX11_addRule_131 (tgt := 136) (by decide) (fun c_131 => absurd c_131 (by decide)) (fun c_131 => ?_)
              refine g_iconst C dX11_addRule_134 (v := 0) (by decide) ?_
              refine g_iretW C hr hQ (Nat.le_refl _) (Nat.le_refl _) dX11_addRule_135 ?_
              exact ⟨(by first | with_reducible rfl | (subst er_1 er_23 er_29; first | with_reducible rfl | (simp only [sa_ap, si_ap, si_sa, sa_sa, sa_3, sa_4, sa_5, sa_6, sa_7, sa_8, xs_rule, ab_ok, hz, up_us, up_up, xs_b, c_11, c_24, c_60, c_84, c_97, c_119]; done) | (simp [sa_ap, si_ap, si_sa, sa_sa, sa_3, sa_4, sa_5, sa_6, sa_7, sa_8, xs_rule, ab_ok, hz, up_us, up_up, xs_b, c_11, c_24, c_60, c_84, c_97, c_119]; done))), rfl, (by first | with_reducible rfl | (subst er_1 er_23 er_29; first | with_reducible rfl | (simp only [sa_ap, si_ap, si_sa, sa_sa, sa_3, sa_4, sa_5, sa_6, sa_7, sa_8, xs_rule, ab_ok, hz, up_us, up_up, xs_b, c_11, c_24, c_60, c_84, c_97, c_119]; done) | (simp [sa_ap, si_ap, si_sa, sa_sa, sa_3, sa_4, sa_5, sa_6, sa_7, sa_8, xs_rule, ab_ok, hz, up_us, up_up, xs_b, c_11, c_24, c_60, c_84, c_97, c_119]; done))), rfl⟩
          · try simp only [sa_ap, si_ap, reduceIte, Nat.reduceEqDiff, up_us, lg_cmp_lt, lg_cmp_gt, lg_cmp_le, lg_cmp_ge] at c_97
            refine g_iconst C dX11_addRule_100 (v := 1) (by decide) ?_
            refine g_goto C dX11_addRule_101 (tgt := 105) (by decide) ?_
            refine g_iconst C dX11_addRule_105 (v := 1) (by decide) ?_
            refine g_callViW C dX11_addRule_106 (c_X11_fails_1 _ _ _ _ _ _ _ _ _ _ (by rfl) (by decide)) tw1412 tw1414 tp14 tw16 tw1415 (rv_X11 C) rfl ⟨by decide +kernel, by decide +kernel, rfl⟩ ⟨rfl, rfl⟩ (by rw [hR]; decide) (Nat.le_of_ble_eq_true rfl) (by rw [hR]; decide) (fun r_37 X1 M1 K1 h_38 => ?_)
            obtain ⟨rfl, hX1, hM1, hK1⟩ := h_38
            subst X1 M1 K1
            refine g_if_ne C dX11_addRule_109 (tgt := 134) (by decide) (fun c_109 => ?_) (fun c_109 => absurd c_109 (by decide))
            refine g_iconst C dX11_addRule_134 (v := 0) (by decide) ?_
            refine g_iretW C hr hQ (Nat.le_refl _) (Nat.le_refl _) dX11_addRule_135 ?_
            exact ⟨(by first | with_reducible rfl | (subst er_1 er_23 er_29; first | with_reducible rfl | (simp only [sa_ap, si_ap, si_sa, sa_sa, sa_3, sa_4, sa_5, sa_6, sa_7, sa_8, xs_rule, ab_ok, hz, up_us, up_up, xs_b, c_11, c_24, c_60, c_84, c_97]; done) | (simp [sa_ap, si_ap, si_sa, sa_sa, sa_3, sa_4, sa_5, sa_6, sa_7, sa_8, xs_rule, ab_ok, hz, up_us, up_up, xs_b, c_11, c_24, c_60, c_84, c_97]; done))), rfl, (by first | with_reducible rfl | (subst er_1 er_23 er_29; first | with_reducible rfl | (simp only [sa_ap, si_ap, si_sa, sa_sa, sa_3, sa_4, sa_5, sa_6, sa_7, sa_8, xs_rule, ab_ok, hz, up_us, up_up, xs_b, c_11, c_24, c_60, c_84, c_97]; done) | (simp [sa_ap, si_ap, si_sa, sa_sa, sa_3, sa_4, sa_5, sa_6, sa_7, sa_8, xs_rule, ab_ok, hz, up_us, up_up, xs_b, c_11, c_24, c_60, c_84, c_97]; done))), rfl⟩
    · try simp only [sa_ap, si_ap, reduceIte, Nat.reduceEqDiff, up_us, lg_cmp_lt, lg_cmp_gt, lg_cmp_le, lg_cmp_ge] at c_24
      refine g_iload_n C dX11_addRule_27 2 rfl ?_
      refine g_bipush C dX11_addRule_28 (v := 115) (by decide) ?_
      refine g_icmp_eq C dX11_addRule_30 (tgt := 39) (by decide) (fun c_30 => ?_) (fun c_30 => ?_)
      · try simp only [sa_ap, si_ap, reduceIte, Nat.reduceEqDiff, up_us, lg_cmp_lt, lg_cmp_gt, lg_cmp_le, lg_cmp_ge] at c_30
        replace c_30 := eq_true c_30
        refine g_iload_n C dX11_addRule_39 3 rfl ?_
        refine g_i2l C dX11_addRule_40 ?_
        refine g_lconst C dX11_addRule_41 (v := 0) (by decide) ?_
        refine g_iload_n C dX11_addRule_42 2 rfl ?_
        refine g_bipush C dX11_addRule_43 (v := 103) (by decide) ?_
        refine g_icmp_ne C dX11_addRule_45 (tgt := 54) (by decide) (fun c_45 => ?_) (fun c_45 => absurd c_45 (by rw [of_eq_true c_30]; decide))
        refine g_ldc2 C dX11_addRule_54 tw1405 ?_
        refine g_callSiW C dX11_addRule_57 (c_X11_in _ _ _ _ _ _ _ _ _ _ _ _) tw1406 tw1407 tw16 tw1408 rfl ⟨by decide +kernel, by decide +kernel, rfl⟩ ⟨rfl, rfl⟩ (by rw [hR]; decide) (Nat.le_of_ble_eq_true rfl) (by rw [hR]; decide) (fun r_39 X1 M1 K1 h_40 => ?_)
        obtain ⟨er_39, hX1, hM1, hK1⟩ := h_40
        subst X1 M1 K1
        try simp only [sa_ap, si_ap, reduceIte, Nat.reduceEqDiff] at er_39
        refine g_if_eq C dX11_addRule_60 (tgt := 67) (by decide) (fun c_60 => ?_) (fun c_60 => ?_)
        · try simp only [sa_ap, si_ap, reduceIte, Nat.reduceEqDiff, up_us, lg_cmp_lt, lg_cmp_gt, lg_cmp_le, lg_cmp_ge] at c_60
          refine g_iconst C dX11_addRule_67 (v := 0) (by decide) ?_
          refine g_istore C dX11_addRule_68 (L' := [(7, .int 0), (6, .int 1), (0, .ref (gad G 42)), (1, .int p1), (2, .int p2), (3, .int p3), (4, .int p4), (5, .int p5)]) rfl (by rw [hL]; decide) ?_
          refine g_aload_n C dX11_addRule_70 2 rfl ?_
          refine g_iload C dX11_addRule_71 1 rfl ?_
          refine g_if_eq C dX11_addRule_73 (tgt := 100) (by decide) (fun c_73 => absurd c_73 (by decide)) (fun c_73 => ?_)
          refine g_iload C dX11_addRule_76 0 rfl ?_
          refine g_if_eq C dX11_addRule_78 (tgt := 100) (by decide) (fun c_78 => ?_) (fun c_78 => absurd (by decide) c_78)
          refine g_iconst C dX11_addRule_100 (v := 1) (by decide) ?_
          refine g_goto C dX11_addRule_101 (tgt := 105) (by decide) ?_
          refine g_iconst C dX11_addRule_105 (v := 1) (by decide) ?_
          refine g_callViW C dX11_addRule_106 (c_X11_fails_1 _ _ _ _ _ _ _ _ _ _ (by rfl) (by decide)) tw1412 tw1414 tp14 tw16 tw1415 (rv_X11 C) rfl ⟨by decide +kernel, by decide +kernel, rfl⟩ ⟨rfl, rfl⟩ (by rw [hR]; decide) (Nat.le_of_ble_eq_true rfl) (by rw [hR]; decide) (fun r_41 X1 M1 K1 h_42 => ?_)
          obtain ⟨rfl, hX1, hM1, hK1⟩ := h_42
          subst X1 M1 K1
          refine g_if_ne C dX11_addRule_109 (tgt := 134) (by decide) (fun c_109 => ?_) (fun c_109 => absurd c_109 (by decide))
          refine g_iconst C dX11_addRule_134 (v := 0) (by decide) ?_
          refine g_iretW C hr hQ (Nat.le_refl _) (Nat.le_refl _) dX11_addRule_135 ?_
          exact ⟨(by first | with_reducible rfl | (subst er_1 er_39; first | with_reducible rfl | (simp only [sa_ap, si_ap, si_sa, sa_sa, sa_3, sa_4, sa_5, sa_6, sa_7, sa_8, xs_rule, ab_ok, hz, up_us, up_up, xs_b, c_11, c_24, c_30, c_60]; done) | (simp [sa_ap, si_ap, si_sa, sa_sa, sa_3, sa_4, sa_5, sa_6, sa_7, sa_8, xs_rule, ab_ok, hz, up_us, up_up, xs_b, c_11, c_24, c_30, c_60]; done))), rfl, (by first | with_reducible rfl | (subst er_1 er_39; first | with_reducible rfl | (simp only [sa_ap, si_ap, si_sa, sa_sa, sa_3, sa_4, sa_5, sa_6, sa_7, sa_8, xs_rule, ab_ok, hz, up_us, up_up, xs_b, c_11, c_24, c_30, c_60]; done) | (simp [sa_ap, si_ap, si_sa, sa_sa, sa_3, sa_4, sa_5, sa_6, sa_7, sa_8, xs_rule, ab_ok, hz, up_us, up_up, xs_b, c_11, c_24, c_30, c_60]; done))), rfl⟩
        · try simp only [sa_ap, si_ap, reduceIte, Nat.reduceEqDiff, up_us, lg_cmp_lt, lg_cmp_gt, lg_cmp_le, lg_cmp_ge] at c_60
          refine g_iconst C dX11_addRule_63 (v := 1) (by decide) ?_
          refine g_goto C dX11_addRule_64 (tgt := 68) (by decide) ?_
          refine g_istore C dX11_addRule_68 (L' := [(7, .int 1), (6, .int 1), (0, .ref (gad G 42)), (1, .int p1), (2, .int p2), (3, .int p3), (4, .int p4), (5, .int p5)]) rfl (by rw [hL]; decide) ?_
          refine g_aload_n C dX11_addRule_70 2 rfl ?_
          refine g_iload C dX11_addRule_71 1 rfl ?_
          refine g_if_eq C dX11_addRule_73 (tgt := 100) (by decide) (fun c_73 => absurd c_73 (by decide)) (fun c_73 => ?_)
          refine g_iload C dX11_addRule_76 0 rfl ?_
          refine g_if_eq C dX11_addRule_78 (tgt := 100) (by decide) (fun c_78 => absurd c_78 (by decide)) (fun c_78 => ?_)
          refine g_iload_n C dX11_addRule_81 5 rfl ?_
          refine g_iload C dX11_addRule_82 6 rfl ?_
          refine g_icmp_gt C dX11_addRule_84 (tgt := 100) (by decide) (fun c_84 => ?_) (fun c_84 => ?_)
          · try simp only [sa_ap, si_ap, reduceIte, Nat.reduceEqDiff, up_us, lg_cmp_lt, lg_cmp_gt, lg_cmp_le, lg_cmp_ge] at c_84
            refine g_iconst C dX11_addRule_100 (v := 1) (by decide) ?_
            refine g_goto C dX11_addRule_101 (tgt := 105) (by decide) ?_
            refine g_iconst C dX11_addRule_105 (v := 1) (by decide) ?_
            refine g_callViW C dX11_addRule_106 (c_X11_fails_1 _ _ _ _ _ _ _ _ _ _ (by rfl) (by decide)) tw1412 tw1414 tp14 tw16 tw1415 (rv_X11 C) rfl ⟨by decide +kernel, by decide +kernel, rfl⟩ ⟨rfl, rfl⟩ (by rw [hR]; decide) (Nat.le_of_ble_eq_true rfl) (by rw [hR]; decide) (fun r_43 X1 M1 K1 h_44 => ?_)
            obtain ⟨rfl, hX1, hM1, hK1⟩ := h_44
            subst X1 M1 K1
            refine g_if_ne C dX11_addRule_109 (tgt := 134) (by decide) (fun c_109 => ?_) (fun c_109 => absurd c_109 (by decide))
            refine g_iconst C dX11_addRule_134 (v := 0) (by decide) ?_
            refine g_iretW C hr hQ (Nat.le_refl _) (Nat.le_refl _) dX11_addRule_135 ?_
            exact ⟨(by first | with_reducible rfl | (subst er_1 er_39; first | with_reducible rfl | (simp only [sa_ap, si_ap, si_sa, sa_sa, sa_3, sa_4, sa_5, sa_6, sa_7, sa_8, xs_rule, ab_ok, hz, up_us, up_up, xs_b, c_11, c_24, c_30, c_60, c_84]; done) | (simp [sa_ap, si_ap, si_sa, sa_sa, sa_3, sa_4, sa_5, sa_6, sa_7, sa_8, xs_rule, ab_ok, hz, up_us, up_up, xs_b, c_11, c_24, c_30, c_60, c_84]; done))), rfl, (by first | with_reducible rfl | (subst er_1 er_39; first | with_reducible rfl | (simp only [sa_ap, si_ap, si_sa, sa_sa, sa_3, sa_4, sa_5, sa_6, sa_7, sa_8, xs_rule, ab_ok, hz, up_us, up_up, xs_b, c_11, c_24, c_30, c_60, c_84]; done) | (simp [sa_ap, si_ap, si_sa, sa_sa, sa_3, sa_4, sa_5, sa_6, sa_7, sa_8, xs_rule, ab_ok, hz, up_us, up_up, xs_b, c_11, c_24, c_30, c_60, c_84]; done))), rfl⟩
          · try simp only [sa_ap, si_ap, reduceIte, Nat.reduceEqDiff, up_us, lg_cmp_lt, lg_cmp_gt, lg_cmp_le, lg_cmp_ge] at c_84
            refine g_iload C dX11_addRule_87 7 rfl ?_
            refine g_i2l C dX11_addRule_89 ?_
            refine g_lconst C dX11_addRule_90 (v := 0) (by decide) ?_
            refine g_ldc2 C dX11_addRule_91 tw1435 ?_
            refine g_callSiW C dX11_addRule_94 (c_X11_in _ _ _ _ _ _ _ _ _ _ _ _) tw1406 tw1407 tw16 tw1408 rfl ⟨by decide +kernel, by decide +kernel, rfl⟩ ⟨rfl, rfl⟩ (by rw [hR]; decide) (Nat.le_of_ble_eq_true rfl) (by rw [hR]; decide) (fun r_45 X1 M1 K1 h_46 => ?_)
            obtain ⟨er_45, hX1, hM1, hK1⟩ := h_46
            subst X1 M1 K1
            try simp only [sa_ap, si_ap, reduceIte, Nat.reduceEqDiff] at er_45
            refine g_if_ne C dX11_addRule_97 (tgt := 104) (by decide) (fun c_97 => ?_) (fun c_97 => ?_)
            · try simp only [sa_ap, si_ap, reduceIte, Nat.reduceEqDiff, up_us, lg_cmp_lt, lg_cmp_gt, lg_cmp_le, lg_cmp_ge] at c_97
              refine g_iconst C dX11_addRule_104 (v := 0) (by decide) ?_
              refine g_iconst C dX11_addRule_105 (v := 1) (by decide) ?_
              refine g_callViW C dX11_addRule_106 (c_X11_fails_0 _ _ _ _ _ _ _ _ _ _ (by rfl)) tw1412 tw1414 tp14 tw16 tw1415 (rv_X11 C) rfl ⟨by decide +kernel, by decide +kernel, rfl⟩ ⟨rfl, rfl⟩ (by rw [hR]; decide) (Nat.le_of_ble_eq_true rfl) (by rw [hR]; decide) (fun r_47 X1 M1 K1 h_48 => ?_)
              obtain ⟨rfl, hX1, hM1, hK1⟩ := h_48
              subst X1 M1 K1
              refine g_if_ne C dX11_addRule_109 (tgt := 134) (by decide) (fun c_109 => absurd c_109 (by decide)) (fun c_109 => ?_)
              refine g_aload_n C dX11_addRule_112 2 rfl ?_
              refine g_aload_n C dX11_addRule_113 2 rfl ?_
              refine gf_X11_rules C tw1282 dX11_addRule_114 ?_
              refine g_topi hz ?_
              refine g_bipush C dX11_addRule_117 (v := 12) (by decide) ?_
              refine g_icmp_ne C dX11_addRule_119 (tgt := 126) (by decide) (fun c_119 => ?_) (fun c_119 => ?_)
              · try simp only [sa_ap, si_ap, reduceIte, Nat.reduceEqDiff, up_us, lg_cmp_lt, lg_cmp_gt, lg_cmp_le, lg_cmp_ge] at c_119
                have hlt : z < 12 := Nat.lt_of_le_of_ne hzl (fun q => c_119 (by rw [q]; rfl))
                refine g_iconst C dX11_addRule_126 (v := 0) (by decide) ?_
                refine g_iconst C dX11_addRule_127 (v := 2) (by decide) ?_
                refine g_callViW C dX11_addRule_128 (c_X11_fails_0 _ _ _ _ _ _ _ _ _ _ (by rfl)) tw1412 tw1414 tp14 tw16 tw1415 (rv_X11 C) rfl ⟨by decide +kernel, by decide +kernel, rfl⟩ ⟨rfl, rfl⟩ (by rw [hR]; decide) (Nat.le_of_ble_eq_true rfl) (by rw [hR]; decide) (fun r_49 X1 M1 K1 h_50 => ?_)
                obtain ⟨rfl, hX1, hM1, hK1⟩ := h_50
                subst X1 M1 K1
                refine g_if_eq C dX11_addRule_131 (tgt := 136) (by decide) (fun c_131 => ?_) (fun c_131 => absurd (by decide) c_131)
                refine g_aload_n C dX11_addRule_136 2 rfl ?_
                refine gf_X11_kind C tw1283 dX11_addRule_137 ?_
                refine g_aload_n C dX11_addRule_140 2 rfl ?_
                refine gf_X11_rules C tw1282 dX11_addRule_141 ?_
                refine g_topi hz ?_
                refine g_iload_n C dX11_addRule_144 3 rfl ?_
                refine as_63 C h1 (by omega) dX11_addRule_145 ?_
                refine g_aload_n C dX11_addRule_146 2 rfl ?_
                refine gf_X11_about C tw1284 dX11_addRule_147 ?_
                refine g_aload_n C dX11_addRule_150 2 rfl ?_
                refine gf_X11_rules C tw1282 dX11_addRule_151 ?_
                refine g_topi hz ?_
                refine g_iload_n C dX11_addRule_154 4 rfl ?_
                refine as_64 C (by omega) dX11_addRule_155 ?_
                refine g_aload_n C dX11_addRule_156 2 rfl ?_
                refine gf_X11_least C tw1285 dX11_addRule_157 ?_
                refine g_aload_n C dX11_addRule_160 2 rfl ?_
                refine gf_X11_rules C tw1282 dX11_addRule_161 ?_
                refine g_topi hz ?_
                refine g_iload_n C dX11_addRule_164 5 rfl ?_
                refine as_65 C (by omega) dX11_addRule_165 ?_
                refine g_aload_n C dX11_addRule_166 2 rfl ?_
                refine gf_X11_greatest C tw1286 dX11_addRule_167 ?_
                refine g_aload_n C dX11_addRule_170 2 rfl ?_
                refine gf_X11_rules C tw1282 dX11_addRule_171 ?_
                refine g_topi hz ?_
                refine g_iload C dX11_addRule_174 6 rfl ?_
                refine as_66 C (by omega) dX11_addRule_176 ?_
                refine g_aload_n C dX11_addRule_177 2 rfl ?_
                refine gf_X11_seconds C tw1287 dX11_addRule_178 ?_
                refine g_aload_n C dX11_addRule_181 2 rfl ?_
                refine gf_X11_rules C tw1282 dX11_addRule_182 ?_
                refine g_topi hz ?_
                refine g_iload C dX11_addRule_185 7 rfl ?_
                refine as_67 C (by omega) dX11_addRule_187 ?_
                refine g_aload_n C dX11_addRule_188 2 rfl ?_
                refine g_dup C dX11_addRule_189 rfl ?_
                refine gf_X11_rules C tw1282 dX11_addRule_190 ?_
                refine g_topi hz ?_
                refine g_iconst C dX11_addRule_193 (v := 1) (by decide) ?_
                refine g_iadd C dX11_addRule_194 ?_
                refine pf_X11_rules C tw1282 dX11_addRule_195 ?_
                refine g_aload_n C dX11_addRule_198 2 rfl ?_
                refine gf_X11_rules C tw1282 dX11_addRule_199 ?_
                refine g_topi rfl ?_
                refine g_iconst C dX11_addRule_202 (v := 1) (by decide) ?_
                refine g_isub C dX11_addRule_203 ?_
                refine g_topi (y := nI z) (by show nI z + 1 - 1 = nI z; rw [nI_1, nI_pred]) ?_
                refine g_iretW C hr hQ (Nat.le_refl _) (Nat.le_refl _) dX11_addRule_204 ?_
                exact ⟨(by first | with_reducible rfl | (subst er_1 er_39 er_45; first | with_reducible rfl | (simp only [sa_ap, si_ap, si_sa, sa_sa, sa_3, sa_4, sa_5, sa_6, sa_7, sa_8, xs_rule, ab_ok, hz, up_us, up_up, xs_b, c_11, c_24, c_30, c_60, c_84, c_97, c_119]; done) | (simp [sa_ap, si_ap, si_sa, sa_sa, sa_3, sa_4, sa_5, sa_6, sa_7, sa_8, xs_rule, ab_ok, hz, up_us, up_up, xs_b, c_11, c_24, c_30, c_60, c_84, c_97, c_119]; done))), rfl, (by first | with_reducible rfl | (subst er_1 er_39 er_45; first | with_reducible rfl | (simp only [sa_ap, si_ap, si_sa, sa_sa, sa_3, sa_4, sa_5, sa_6, sa_7, sa_8, xs_rule, ab_ok, hz, up_us, up_up, xs_b, c_11, c_24, c_30, c_60, c_84, c_97, c_119]; done) | (simp [sa_ap, si_ap, si_sa, sa_sa, sa_3, sa_4, sa_5, sa_6, sa_7, sa_8, xs_rule, ab_ok, hz, up_us, up_up, xs_b, c_11, c_24, c_30, c_60, c_84, c_97, c_119]; done))), rfl⟩
              · try simp only [sa_ap, si_ap, reduceIte, Nat.reduceEqDiff, up_us, lg_cmp_lt, lg_cmp_gt, lg_cmp_le, lg_cmp_ge] at c_119
                refine g_iconst C dX11_addRule_122 (v := 1) (by decide) ?_
                refine g_goto C dX11_addRule_123 (tgt := 127) (by decide) ?_
                refine g_iconst C dX11_addRule_127 (v := 2) (by decide) ?_
                refine g_callViW C dX11_addRule_128 (c_X11_fails_1 _ _ _ _ _ _ _ _ _ _ (by rfl) (by decide)) tw1412 tw1414 tp14 tw16 tw1415 (rv_X11 C) rfl ⟨by decide +kernel, by decide +kernel, rfl⟩ ⟨rfl, rfl⟩ (by rw [hR]; decide) (Nat.le_of_ble_eq_true rfl) (by rw [hR]; decide) (fun r_51 X1 M1 K1 h_52 => ?_)
                obtain ⟨rfl, hX1, hM1, hK1⟩ := h_52
                subst X1 M1 K1
                refine g_if_eq C dX11_addRule_131 (tgt := 136) (by decide) (fun c_131 => absurd c_131 (by decide)) (fun c_131 => ?_)
                refine g_iconst C dX11_addRule_134 (v := 0) (by decide) ?_
                refine g_iretW C hr hQ (Nat.le_refl _) (Nat.le_refl _) dX11_addRule_135 ?_
                exact ⟨(by first | with_reducible rfl | (subst er_1 er_39 er_45; first | with_reducible rfl | (simp only [sa_ap, si_ap, si_sa, sa_sa, sa_3, sa_4, sa_5, sa_6, sa_7, sa_8, xs_rule, ab_ok, hz, up_us, up_up, xs_b, c_11, c_24, c_30, c_60, c_84, c_97, c_119]; done) | (simp [sa_ap, si_ap, si_sa, sa_sa, sa_3, sa_4, sa_5, sa_6, sa_7, sa_8, xs_rule, ab_ok, hz, up_us, up_up, xs_b, c_11, c_24, c_30, c_60, c_84, c_97, c_119]; done))), rfl, (by first | with_reducible rfl | (subst er_1 er_39 er_45; first | with_reducible rfl | (simp only [sa_ap, si_ap, si_sa, sa_sa, sa_3, sa_4, sa_5, sa_6, sa_7, sa_8, xs_rule, ab_ok, hz, up_us, up_up, xs_b, c_11, c_24, c_30, c_60, c_84, c_97, c_119]; done) | (simp [sa_ap, si_ap, si_sa, sa_sa, sa_3, sa_4, sa_5, sa_6, sa_7, sa_8, xs_rule, ab_ok, hz, up_us, up_up, xs_b, c_11, c_24, c_30, c_60, c_84, c_97, c_119]; done))), rfl⟩
            · try simp only [sa_ap, si_ap, reduceIte, Nat.reduceEqDiff, up_us, lg_cmp_lt, lg_cmp_gt, lg_cmp_le, lg_cmp_ge] at c_97
              refine g_iconst C dX11_addRule_100 (v := 1) (by decide) ?_
              refine g_goto C dX11_addRule_101 (tgt := 105) (by decide) ?_
              refine g_iconst C dX11_addRule_105 (v := 1) (by decide) ?_
              refine g_callViW C dX11_addRule_106 (c_X11_fails_1 _ _ _ _ _ _ _ _ _ _ (by rfl) (by decide)) tw1412 tw1414 tp14 tw16 tw1415 (rv_X11 C) rfl ⟨by decide +kernel, by decide +kernel, rfl⟩ ⟨rfl, rfl⟩ (by rw [hR]; decide) (Nat.le_of_ble_eq_true rfl) (by rw [hR]; decide) (fun r_53 X1 M1 K1 h_54 => ?_)
              obtain ⟨rfl, hX1, hM1, hK1⟩ := h_54
              subst X1 M1 K1
              refine g_if_ne C dX11_addRule_109 (tgt := 134) (by decide) (fun c_109 => ?_) (fun c_109 => absurd c_109 (by decide))
              refine g_iconst C dX11_addRule_134 (v := 0) (by decide) ?_
              refine g_iretW C hr hQ (Nat.le_refl _) (Nat.le_refl _) dX11_addRule_135 ?_
              exact ⟨(by first | with_reducible rfl | (subst er_1 er_39 er_45; first | with_reducible rfl | (simp only [sa_ap, si_ap, si_sa, sa_sa, sa_3, sa_4, sa_5, sa_6, sa_7, sa_8, xs_rule, ab_ok, hz, up_us, up_up, xs_b, c_11, c_24, c_30, c_60, c_84, c_97]; done) | (simp [sa_ap, si_ap, si_sa, sa_sa, sa_3, sa_4, sa_5, sa_6, sa_7, sa_8, xs_rule, ab_ok, hz, up_us, up_up, xs_b, c_11, c_24, c_30, c_60, c_84, c_97]; done))), rfl, (by first | with_reducible rfl | (subst er_1 er_39 er_45; first | with_reducible rfl | (simp only [sa_ap, si_ap, si_sa, sa_sa, sa_3, sa_4, sa_5, sa_6, sa_7, sa_8, xs_rule, ab_ok, hz, up_us, up_up, xs_b, c_11, c_24, c_30, c_60, c_84, c_97]; done) | (simp [sa_ap, si_ap, si_sa, sa_sa, sa_3, sa_4, sa_5, sa_6, sa_7, sa_8, xs_rule, ab_ok, hz, up_us, up_up, xs_b, c_11, c_24, c_30, c_60, c_84, c_97]; done))), rfl⟩
      · try simp only [sa_ap, si_ap, reduceIte, Nat.reduceEqDiff, up_us, lg_cmp_lt, lg_cmp_gt, lg_cmp_le, lg_cmp_ge] at c_30
        refine g_iload_n C dX11_addRule_33 2 rfl ?_
        refine g_bipush C dX11_addRule_34 (v := 103) (by decide) ?_
        refine g_icmp_ne C dX11_addRule_36 (tgt := 63) (by decide) (fun c_36 => ?_) (fun c_36 => ?_)
        · try simp only [sa_ap, si_ap, reduceIte, Nat.reduceEqDiff, up_us, lg_cmp_lt, lg_cmp_gt, lg_cmp_le, lg_cmp_ge] at c_36
          refine g_iconst C dX11_addRule_63 (v := 1) (by decide) ?_
          refine g_goto C dX11_addRule_64 (tgt := 68) (by decide) ?_
          refine g_istore C dX11_addRule_68 (L' := [(7, .int 1), (6, .int 1), (0, .ref (gad G 42)), (1, .int p1), (2, .int p2), (3, .int p3), (4, .int p4), (5, .int p5)]) rfl (by rw [hL]; decide) ?_
          refine g_aload_n C dX11_addRule_70 2 rfl ?_
          refine g_iload C dX11_addRule_71 1 rfl ?_
          refine g_if_eq C dX11_addRule_73 (tgt := 100) (by decide) (fun c_73 => absurd c_73 (by decide)) (fun c_73 => ?_)
          refine g_iload C dX11_addRule_76 0 rfl ?_
          refine g_if_eq C dX11_addRule_78 (tgt := 100) (by decide) (fun c_78 => absurd c_78 (by decide)) (fun c_78 => ?_)
          refine g_iload_n C dX11_addRule_81 5 rfl ?_
          refine g_iload C dX11_addRule_82 6 rfl ?_
          refine g_icmp_gt C dX11_addRule_84 (tgt := 100) (by decide) (fun c_84 => ?_) (fun c_84 => ?_)
          · try simp only [sa_ap, si_ap, reduceIte, Nat.reduceEqDiff, up_us, lg_cmp_lt, lg_cmp_gt, lg_cmp_le, lg_cmp_ge] at c_84
            refine g_iconst C dX11_addRule_100 (v := 1) (by decide) ?_
            refine g_goto C dX11_addRule_101 (tgt := 105) (by decide) ?_
            refine g_iconst C dX11_addRule_105 (v := 1) (by decide) ?_
            refine g_callViW C dX11_addRule_106 (c_X11_fails_1 _ _ _ _ _ _ _ _ _ _ (by rfl) (by decide)) tw1412 tw1414 tp14 tw16 tw1415 (rv_X11 C) rfl ⟨by decide +kernel, by decide +kernel, rfl⟩ ⟨rfl, rfl⟩ (by rw [hR]; decide) (Nat.le_of_ble_eq_true rfl) (by rw [hR]; decide) (fun r_55 X1 M1 K1 h_56 => ?_)
            obtain ⟨rfl, hX1, hM1, hK1⟩ := h_56
            subst X1 M1 K1
            refine g_if_ne C dX11_addRule_109 (tgt := 134) (by decide) (fun c_109 => ?_) (fun c_109 => absurd c_109 (by decide))
            refine g_iconst C dX11_addRule_134 (v := 0) (by decide) ?_
            refine g_iretW C hr hQ (Nat.le_refl _) (Nat.le_refl _) dX11_addRule_135 ?_
            exact ⟨(by first | with_reducible rfl | (subst er_1; first | with_reducible rfl | (simp only [sa_ap, si_ap, si_sa, sa_sa, sa_3, sa_4, sa_5, sa_6, sa_7, sa_8, xs_rule, ab_ok, hz, up_us, up_up, xs_b, c_11, c_24, c_30, c_36, c_84]; done) | (simp [sa_ap, si_ap, si_sa, sa_sa, sa_3, sa_4, sa_5, sa_6, sa_7, sa_8, xs_rule, ab_ok, hz, up_us, up_up, xs_b, c_11, c_24, c_30, c_36, c_84]; done))), rfl, (by first | with_reducible rfl | (subst er_1; first | with_reducible rfl | (simp only [sa_ap, si_ap, si_sa, sa_sa, sa_3, sa_4, sa_5, sa_6, sa_7, sa_8, xs_rule, ab_ok, hz, up_us, up_up, xs_b, c_11, c_24, c_30, c_36, c_84]; done) | (simp [sa_ap, si_ap, si_sa, sa_sa, sa_3, sa_4, sa_5, sa_6, sa_7, sa_8, xs_rule, ab_ok, hz, up_us, up_up, xs_b, c_11, c_24, c_30, c_36, c_84]; done))), rfl⟩
          · try simp only [sa_ap, si_ap, reduceIte, Nat.reduceEqDiff, up_us, lg_cmp_lt, lg_cmp_gt, lg_cmp_le, lg_cmp_ge] at c_84
            refine g_iload C dX11_addRule_87 7 rfl ?_
            refine g_i2l C dX11_addRule_89 ?_
            refine g_lconst C dX11_addRule_90 (v := 0) (by decide) ?_
            refine g_ldc2 C dX11_addRule_91 tw1435 ?_
            refine g_callSiW C dX11_addRule_94 (c_X11_in _ _ _ _ _ _ _ _ _ _ _ _) tw1406 tw1407 tw16 tw1408 rfl ⟨by decide +kernel, by decide +kernel, rfl⟩ ⟨rfl, rfl⟩ (by rw [hR]; decide) (Nat.le_of_ble_eq_true rfl) (by rw [hR]; decide) (fun r_57 X1 M1 K1 h_58 => ?_)
            obtain ⟨er_57, hX1, hM1, hK1⟩ := h_58
            subst X1 M1 K1
            try simp only [sa_ap, si_ap, reduceIte, Nat.reduceEqDiff] at er_57
            refine g_if_ne C dX11_addRule_97 (tgt := 104) (by decide) (fun c_97 => ?_) (fun c_97 => ?_)
            · try simp only [sa_ap, si_ap, reduceIte, Nat.reduceEqDiff, up_us, lg_cmp_lt, lg_cmp_gt, lg_cmp_le, lg_cmp_ge] at c_97
              refine g_iconst C dX11_addRule_104 (v := 0) (by decide) ?_
              refine g_iconst C dX11_addRule_105 (v := 1) (by decide) ?_
              refine g_callViW C dX11_addRule_106 (c_X11_fails_0 _ _ _ _ _ _ _ _ _ _ (by rfl)) tw1412 tw1414 tp14 tw16 tw1415 (rv_X11 C) rfl ⟨by decide +kernel, by decide +kernel, rfl⟩ ⟨rfl, rfl⟩ (by rw [hR]; decide) (Nat.le_of_ble_eq_true rfl) (by rw [hR]; decide) (fun r_59 X1 M1 K1 h_60 => ?_)
              obtain ⟨rfl, hX1, hM1, hK1⟩ := h_60
              subst X1 M1 K1
              refine g_if_ne C dX11_addRule_109 (tgt := 134) (by decide) (fun c_109 => absurd c_109 (by decide)) (fun c_109 => ?_)
              refine g_aload_n C dX11_addRule_112 2 rfl ?_
              refine g_aload_n C dX11_addRule_113 2 rfl ?_
              refine gf_X11_rules C tw1282 dX11_addRule_114 ?_
              refine g_topi hz ?_
              refine g_bipush C dX11_addRule_117 (v := 12) (by decide) ?_
              refine g_icmp_ne C dX11_addRule_119 (tgt := 126) (by decide) (fun c_119 => ?_) (fun c_119 => ?_)
              · try simp only [sa_ap, si_ap, reduceIte, Nat.reduceEqDiff, up_us, lg_cmp_lt, lg_cmp_gt, lg_cmp_le, lg_cmp_ge] at c_119
                have hlt : z < 12 := Nat.lt_of_le_of_ne hzl (fun q => c_119 (by rw [q]; rfl))
                refine g_iconst C dX11_addRule_126 (v := 0) (by decide) ?_
                refine g_iconst C dX11_addRule_127 (v := 2) (by decide) ?_
                refine g_callViW C dX11_addRule_128 (c_X11_fails_0 _ _ _ _ _ _ _ _ _ _ (by rfl)) tw1412 tw1414 tp14 tw16 tw1415 (rv_X11 C) rfl ⟨by decide +kernel, by decide +kernel, rfl⟩ ⟨rfl, rfl⟩ (by rw [hR]; decide) (Nat.le_of_ble_eq_true rfl) (by rw [hR]; decide) (fun r_61 X1 M1 K1 h_62 => ?_)
                obtain ⟨rfl, hX1, hM1, hK1⟩ := h_62
                subst X1 M1 K1
                refine g_if_eq C dX11_addRule_131 (tgt := 136) (by decide) (fun c_131 => ?_) (fun c_131 => absurd (by decide) c_131)
                refine g_aload_n C dX11_addRule_136 2 rfl ?_
                refine gf_X11_kind C tw1283 dX11_addRule_137 ?_
                refine g_aload_n C dX11_addRule_140 2 rfl ?_
                refine gf_X11_rules C tw1282 dX11_addRule_141 ?_
                refine g_topi hz ?_
                refine g_iload_n C dX11_addRule_144 3 rfl ?_
                refine as_63 C h1 (by omega) dX11_addRule_145 ?_
                refine g_aload_n C dX11_addRule_146 2 rfl ?_
                refine gf_X11_about C tw1284 dX11_addRule_147 ?_
                refine g_aload_n C dX11_addRule_150 2 rfl ?_
                refine gf_X11_rules C tw1282 dX11_addRule_151 ?_
                refine g_topi hz ?_
                refine g_iload_n C dX11_addRule_154 4 rfl ?_
                refine as_64 C (by omega) dX11_addRule_155 ?_
                refine g_aload_n C dX11_addRule_156 2 rfl ?_
                refine gf_X11_least C tw1285 dX11_addRule_157 ?_
                refine g_aload_n C dX11_addRule_160 2 rfl ?_
                refine gf_X11_rules C tw1282 dX11_addRule_161 ?_
                refine g_topi hz ?_
                refine g_iload_n C dX11_addRule_164 5 rfl ?_
                refine as_65 C (by omega) dX11_addRule_165 ?_
                refine g_aload_n C dX11_addRule_166 2 rfl ?_
                refine gf_X11_greatest C tw1286 dX11_addRule_167 ?_
                refine g_aload_n C dX11_addRule_170 2 rfl ?_
                refine gf_X11_rules C tw1282 dX11_addRule_171 ?_
                refine g_topi hz ?_
                refine g_iload C dX11_addRule_174 6 rfl ?_
                refine as_66 C (by omega) dX11_addRule_176 ?_
                refine g_aload_n C dX11_addRule_177 2 rfl ?_
                refine gf_X11_seconds C tw1287 dX11_addRule_178 ?_
                refine g_aload_n C dX11_addRule_181 2 rfl ?_
                refine gf_X11_rules C tw1282 dX11_addRule_182 ?_
                refine g_topi hz ?_
                refine g_iload C dX11_addRule_185 7 rfl ?_
                refine as_67 C (by omega) dX11_addRule_187 ?_
                refine g_aload_n C dX11_addRule_188 2 rfl ?_
                refine g_dup C dX11_addRule_189 rfl ?_
                refine gf_X11_rules C tw1282 dX11_addRule_190 ?_
                refine g_topi hz ?_
                refine g_iconst C dX11_addRule_193 (v := 1) (by decide) ?_
                refine g_iadd C dX11_addRule_194 ?_
                refine pf_X11_rules C tw1282 dX11_addRule_195 ?_
                refine g_aload_n C dX11_addRule_198 2 rfl ?_
                refine gf_X11_rules C tw1282 dX11_addRule_199 ?_
                refine g_topi rfl ?_
                refine g_iconst C dX11_addRule_202 (v := 1) (by decide) ?_
                refine g_isub C dX11_addRule_203 ?_
                refine g_topi (y := nI z) (by show nI z + 1 - 1 = nI z; rw [nI_1, nI_pred]) ?_
                refine g_iretW C hr hQ (Nat.le_refl _) (Nat.le_refl _) dX11_addRule_204 ?_
                exact ⟨(by first | with_reducible rfl | (subst er_1 er_57; first | with_reducible rfl | (simp only [sa_ap, si_ap, si_sa, sa_sa, sa_3, sa_4, sa_5, sa_6, sa_7, sa_8, xs_rule, ab_ok, hz, up_us, up_up, xs_b, c_11, c_24, c_30, c_36, c_84, c_97, c_119]; done) | (simp [sa_ap, si_ap, si_sa, sa_sa, sa_3, sa_4, sa_5, sa_6, sa_7, sa_8, xs_rule, ab_ok, hz, up_us, up_up, xs_b, c_11, c_24, c_30, c_36, c_84, c_97, c_119]; done))), rfl, (by first | with_reducible rfl | (subst er_1 er_57; first | with_reducible rfl | (simp only [sa_ap, si_ap, si_sa, sa_sa, sa_3, sa_4, sa_5, sa_6, sa_7, sa_8, xs_rule, ab_ok, hz, up_us, up_up, xs_b, c_11, c_24, c_30, c_36, c_84, c_97, c_119]; done) | (simp [sa_ap, si_ap, si_sa, sa_sa, sa_3, sa_4, sa_5, sa_6, sa_7, sa_8, xs_rule, ab_ok, hz, up_us, up_up, xs_b, c_11, c_24, c_30, c_36, c_84, c_97, c_119]; done))), rfl⟩
              · try simp only [sa_ap, si_ap, reduceIte, Nat.reduceEqDiff, up_us, lg_cmp_lt, lg_cmp_gt, lg_cmp_le, lg_cmp_ge] at c_119
                refine g_iconst C dX11_addRule_122 (v := 1) (by decide) ?_
                refine g_goto C dX11_addRule_123 (tgt := 127) (by decide) ?_
                refine g_iconst C dX11_addRule_127 (v := 2) (by decide) ?_
                refine g_callViW C dX11_addRule_128 (c_X11_fails_1 _ _ _ _ _ _ _ _ _ _ (by rfl) (by decide)) tw1412 tw1414 tp14 tw16 tw1415 (rv_X11 C) rfl ⟨by decide +kernel, by decide +kernel, rfl⟩ ⟨rfl, rfl⟩ (by rw [hR]; decide) (Nat.le_of_ble_eq_true rfl) (by rw [hR]; decide) (fun r_63 X1 M1 K1 h_64 => ?_)
                obtain ⟨rfl, hX1, hM1, hK1⟩ := h_64
                subst X1 M1 K1
                refine g_if_eq C dX11_addRule_131 (tgt := 136) (by decide) (fun c_131 => absurd c_131 (by decide)) (fun c_131 => ?_)
                refine g_iconst C dX11_addRule_134 (v := 0) (by decide) ?_
                refine g_iretW C hr hQ (Nat.le_refl _) (Nat.le_refl _) dX11_addRule_135 ?_
                exact ⟨(by first | with_reducible rfl | (subst er_1 er_57; first | with_reducible rfl | (simp only [sa_ap, si_ap, si_sa, sa_sa, sa_3, sa_4, sa_5, sa_6, sa_7, sa_8, xs_rule, ab_ok, hz, up_us, up_up, xs_b, c_11, c_24, c_30, c_36, c_84, c_97, c_119]; done) | (simp [sa_ap, si_ap, si_sa, sa_sa, sa_3, sa_4, sa_5, sa_6, sa_7, sa_8, xs_rule, ab_ok, hz, up_us, up_up, xs_b, c_11, c_24, c_30, c_36, c_84, c_97, c_119]; done))), rfl, (by first | with_reducible rfl | (subst er_1 er_57; first | with_reducible rfl | (simp only [sa_ap, si_ap, si_sa, sa_sa, sa_3, sa_4, sa_5, sa_6, sa_7, sa_8, xs_rule, ab_ok, hz, up_us, up_up, xs_b, c_11, c_24, c_30, c_36, c_84, c_97, c_119]; done) | (simp [sa_ap, si_ap, si_sa, sa_sa, sa_3, sa_4, sa_5, sa_6, sa_7, sa_8, xs_rule, ab_ok, hz, up_us, up_up, xs_b, c_11, c_24, c_30, c_36, c_84, c_97, c_119]; done))), rfl⟩
            · try simp only [sa_ap, si_ap, reduceIte, Nat.reduceEqDiff, up_us, lg_cmp_lt, lg_cmp_gt, lg_cmp_le, lg_cmp_ge] at c_97
              refine g_iconst C dX11_addRule_100 (v := 1) (by decide) ?_
              refine g_goto C dX11_addRule_101 (tgt := 105) (by decide) ?_
              refine g_iconst C dX11_addRule_105 (v := 1) (by decide) ?_
              refine g_callViW C dX11_addRule_106 (c_X11_fails_1 _ _ _ _ _ _ _ _ _ _ (by rfl) (by decide)) tw1412 tw1414 tp14 tw16 tw1415 (rv_X11 C) rfl ⟨by decide +kernel, by decide +kernel, rfl⟩ ⟨rfl, rfl⟩ (by rw [hR]; decide) (Nat.le_of_ble_eq_true rfl) (by rw [hR]; decide) (fun r_65 X1 M1 K1 h_66 => ?_)
              obtain ⟨rfl, hX1, hM1, hK1⟩ := h_66
              subst X1 M1 K1
              refine g_if_ne C dX11_addRule_109 (tgt := 134) (by decide) (fun c_109 => ?_) (fun c_109 => absurd c_109 (by decide))
              refine g_iconst C dX11_addRule_134 (v := 0) (by decide) ?_
              refine g_iretW C hr hQ (Nat.le_refl _) (Nat.le_refl _) dX11_addRule_135 ?_
              exact ⟨(by first | with_reducible rfl | (subst er_1 er_57; first | with_reducible rfl | (simp only [sa_ap, si_ap, si_sa, sa_sa, sa_3, sa_4, sa_5, sa_6, sa_7, sa_8, xs_rule, ab_ok, hz, up_us, up_up, xs_b, c_11, c_24, c_30, c_36, c_84, c_97]; done) | (simp [sa_ap, si_ap, si_sa, sa_sa, sa_3, sa_4, sa_5, sa_6, sa_7, sa_8, xs_rule, ab_ok, hz, up_us, up_up, xs_b, c_11, c_24, c_30, c_36, c_84, c_97]; done))), rfl, (by first | with_reducible rfl | (subst er_1 er_57; first | with_reducible rfl | (simp only [sa_ap, si_ap, si_sa, sa_sa, sa_3, sa_4, sa_5, sa_6, sa_7, sa_8, xs_rule, ab_ok, hz, up_us, up_up, xs_b, c_11, c_24, c_30, c_36, c_84, c_97]; done) | (simp [sa_ap, si_ap, si_sa, sa_sa, sa_3, sa_4, sa_5, sa_6, sa_7, sa_8, xs_rule, ab_ok, hz, up_us, up_up, xs_b, c_11, c_24, c_30, c_36, c_84, c_97]; done))), rfl⟩
        · try simp only [sa_ap, si_ap, reduceIte, Nat.reduceEqDiff, up_us, lg_cmp_lt, lg_cmp_gt, lg_cmp_le, lg_cmp_ge] at c_36
          replace c_36 := eq_true c_36
          refine g_iload_n C dX11_addRule_39 3 rfl ?_
          refine g_i2l C dX11_addRule_40 ?_
          refine g_lconst C dX11_addRule_41 (v := 0) (by decide) ?_
          refine g_iload_n C dX11_addRule_42 2 rfl ?_
          refine g_bipush C dX11_addRule_43 (v := 103) (by decide) ?_
          refine g_icmp_ne C dX11_addRule_45 (tgt := 54) (by decide) (fun c_45 => absurd c_45 (fun q => q (of_eq_true c_36))) (fun c_45 => ?_)
          refine g_ldc2 C dX11_addRule_48 tw1573 ?_
          refine g_goto C dX11_addRule_51 (tgt := 57) (by decide) ?_
          refine g_callSiW C dX11_addRule_57 (c_X11_in _ _ _ _ _ _ _ _ _ _ _ _) tw1406 tw1407 tw16 tw1408 rfl ⟨by decide +kernel, by decide +kernel, rfl⟩ ⟨rfl, rfl⟩ (by rw [hR]; decide) (Nat.le_of_ble_eq_true rfl) (by rw [hR]; decide) (fun r_67 X1 M1 K1 h_68 => ?_)
          obtain ⟨er_67, hX1, hM1, hK1⟩ := h_68
          subst X1 M1 K1
          try simp only [sa_ap, si_ap, reduceIte, Nat.reduceEqDiff] at er_67
          refine g_if_eq C dX11_addRule_60 (tgt := 67) (by decide) (fun c_60 => ?_) (fun c_60 => ?_)
          · try simp only [sa_ap, si_ap, reduceIte, Nat.reduceEqDiff, up_us, lg_cmp_lt, lg_cmp_gt, lg_cmp_le, lg_cmp_ge] at c_60
            refine g_iconst C dX11_addRule_67 (v := 0) (by decide) ?_
            refine g_istore C dX11_addRule_68 (L' := [(7, .int 0), (6, .int 1), (0, .ref (gad G 42)), (1, .int p1), (2, .int p2), (3, .int p3), (4, .int p4), (5, .int p5)]) rfl (by rw [hL]; decide) ?_
            refine g_aload_n C dX11_addRule_70 2 rfl ?_
            refine g_iload C dX11_addRule_71 1 rfl ?_
            refine g_if_eq C dX11_addRule_73 (tgt := 100) (by decide) (fun c_73 => absurd c_73 (by decide)) (fun c_73 => ?_)
            refine g_iload C dX11_addRule_76 0 rfl ?_
            refine g_if_eq C dX11_addRule_78 (tgt := 100) (by decide) (fun c_78 => ?_) (fun c_78 => absurd (by decide) c_78)
            refine g_iconst C dX11_addRule_100 (v := 1) (by decide) ?_
            refine g_goto C dX11_addRule_101 (tgt := 105) (by decide) ?_
            refine g_iconst C dX11_addRule_105 (v := 1) (by decide) ?_
            refine g_callViW C dX11_addRule_106 (c_X11_fails_1 _ _ _ _ _ _ _ _ _ _ (by rfl) (by decide)) tw1412 tw1414 tp14 tw16 tw1415 (rv_X11 C) rfl ⟨by decide +kernel, by decide +kernel, rfl⟩ ⟨rfl, rfl⟩ (by rw [hR]; decide) (Nat.le_of_ble_eq_true rfl) (by rw [hR]; decide) (fun r_69 X1 M1 K1 h_70 => ?_)
            obtain ⟨rfl, hX1, hM1, hK1⟩ := h_70
            subst X1 M1 K1
            refine g_if_ne C dX11_addRule_109 (tgt := 134) (by decide) (fun c_109 => ?_) (fun c_109 => absurd c_109 (by decide))
            refine g_iconst C dX11_addRule_134 (v := 0) (by decide) ?_
            refine g_iretW C hr hQ (Nat.le_refl _) (Nat.le_refl _) dX11_addRule_135 ?_
            exact ⟨(by first | with_reducible rfl | (subst er_1 er_67; first | with_reducible rfl | (simp only [sa_ap, si_ap, si_sa, sa_sa, sa_3, sa_4, sa_5, sa_6, sa_7, sa_8, xs_rule, ab_ok, hz, up_us, up_up, xs_b, c_11, c_24, c_30, c_36, c_60]; done) | (simp [sa_ap, si_ap, si_sa, sa_sa, sa_3, sa_4, sa_5, sa_6, sa_7, sa_8, xs_rule, ab_ok, hz, up_us, up_up, xs_b, c_11, c_24, c_30, c_36, c_60]; done))), rfl, (by first | with_reducible rfl | (subst er_1 er_67; first | with_reducible rfl | (simp only [sa_ap, si_ap, si_sa, sa_sa, sa_3, sa_4, sa_5, sa_6, sa_7, sa_8, xs_rule, ab_ok, hz, up_us, up_up, xs_b, c_11, c_24, c_30, c_36, c_60]; done) | (simp [sa_ap, si_ap, si_sa, sa_sa, sa_3, sa_4, sa_5, sa_6, sa_7, sa_8, xs_rule, ab_ok, hz, up_us, up_up, xs_b, c_11, c_24, c_30, c_36, c_60]; done))), rfl⟩
          · try simp only [sa_ap, si_ap, reduceIte, Nat.reduceEqDiff, up_us, lg_cmp_lt, lg_cmp_gt, lg_cmp_le, lg_cmp_ge] at c_60
            refine g_iconst C dX11_addRule_63 (v := 1) (by decide) ?_
            refine g_goto C dX11_addRule_64 (tgt := 68) (by decide) ?_
            refine g_istore C dX11_addRule_68 (L' := [(7, .int 1), (6, .int 1), (0, .ref (gad G 42)), (1, .int p1), (2, .int p2), (3, .int p3), (4, .int p4), (5, .int p5)]) rfl (by rw [hL]; decide) ?_
            refine g_aload_n C dX11_addRule_70 2 rfl ?_
            refine g_iload C dX11_addRule_71 1 rfl ?_
            refine g_if_eq C dX11_addRule_73 (tgt := 100) (by decide) (fun c_73 => absurd c_73 (by decide)) (fun c_73 => ?_)
            refine g_iload C dX11_addRule_76 0 rfl ?_
            refine g_if_eq C dX11_addRule_78 (tgt := 100) (by decide) (fun c_78 => absurd c_78 (by decide)) (fun c_78 => ?_)
            refine g_iload_n C dX11_addRule_81 5 rfl ?_
            refine g_iload C dX11_addRule_82 6 rfl ?_
            refine g_icmp_gt C dX11_addRule_84 (tgt := 100) (by decide) (fun c_84 => ?_) (fun c_84 => ?_)
            · try simp only [sa_ap, si_ap, reduceIte, Nat.reduceEqDiff, up_us, lg_cmp_lt, lg_cmp_gt, lg_cmp_le, lg_cmp_ge] at c_84
              refine g_iconst C dX11_addRule_100 (v := 1) (by decide) ?_
              refine g_goto C dX11_addRule_101 (tgt := 105) (by decide) ?_
              refine g_iconst C dX11_addRule_105 (v := 1) (by decide) ?_
              refine g_callViW C dX11_addRule_106 (c_X11_fails_1 _ _ _ _ _ _ _ _ _ _ (by rfl) (by decide)) tw1412 tw1414 tp14 tw16 tw1415 (rv_X11 C) rfl ⟨by decide +kernel, by decide +kernel, rfl⟩ ⟨rfl, rfl⟩ (by rw [hR]; decide) (Nat.le_of_ble_eq_true rfl) (by rw [hR]; decide) (fun r_71 X1 M1 K1 h_72 => ?_)
              obtain ⟨rfl, hX1, hM1, hK1⟩ := h_72
              subst X1 M1 K1
              refine g_if_ne C dX11_addRule_109 (tgt := 134) (by decide) (fun c_109 => ?_) (fun c_109 => absurd c_109 (by decide))
              refine g_iconst C dX11_addRule_134 (v := 0) (by decide) ?_
              refine g_iretW C hr hQ (Nat.le_refl _) (Nat.le_refl _) dX11_addRule_135 ?_
              exact ⟨(by first | with_reducible rfl | (subst er_1 er_67; first | with_reducible rfl | (simp only [sa_ap, si_ap, si_sa, sa_sa, sa_3, sa_4, sa_5, sa_6, sa_7, sa_8, xs_rule, ab_ok, hz, up_us, up_up, xs_b, c_11, c_24, c_30, c_36, c_60, c_84]; done) | (simp [sa_ap, si_ap, si_sa, sa_sa, sa_3, sa_4, sa_5, sa_6, sa_7, sa_8, xs_rule, ab_ok, hz, up_us, up_up, xs_b, c_11, c_24, c_30, c_36, c_60, c_84]; done))), rfl, (by first | with_reducible rfl | (subst er_1 er_67; first | with_reducible rfl | (simp only [sa_ap, si_ap, si_sa, sa_sa, sa_3, sa_4, sa_5, sa_6, sa_7, sa_8, xs_rule, ab_ok, hz, up_us, up_up, xs_b, c_11, c_24, c_30, c_36, c_60, c_84]; done) | (simp [sa_ap, si_ap, si_sa, sa_sa, sa_3, sa_4, sa_5, sa_6, sa_7, sa_8, xs_rule, ab_ok, hz, up_us, up_up, xs_b, c_11, c_24, c_30, c_36, c_60, c_84]; done))), rfl⟩
            · try simp only [sa_ap, si_ap, reduceIte, Nat.reduceEqDiff, up_us, lg_cmp_lt, lg_cmp_gt, lg_cmp_le, lg_cmp_ge] at c_84
              refine g_iload C dX11_addRule_87 7 rfl ?_
              refine g_i2l C dX11_addRule_89 ?_
              refine g_lconst C dX11_addRule_90 (v := 0) (by decide) ?_
              refine g_ldc2 C dX11_addRule_91 tw1435 ?_
              refine g_callSiW C dX11_addRule_94 (c_X11_in _ _ _ _ _ _ _ _ _ _ _ _) tw1406 tw1407 tw16 tw1408 rfl ⟨by decide +kernel, by decide +kernel, rfl⟩ ⟨rfl, rfl⟩ (by rw [hR]; decide) (Nat.le_of_ble_eq_true rfl) (by rw [hR]; decide) (fun r_73 X1 M1 K1 h_74 => ?_)
              obtain ⟨er_73, hX1, hM1, hK1⟩ := h_74
              subst X1 M1 K1
              try simp only [sa_ap, si_ap, reduceIte, Nat.reduceEqDiff] at er_73
              refine g_if_ne C dX11_addRule_97 (tgt := 104) (by decide) (fun c_97 => ?_) (fun c_97 => ?_)
              · try simp only [sa_ap, si_ap, reduceIte, Nat.reduceEqDiff, up_us, lg_cmp_lt, lg_cmp_gt, lg_cmp_le, lg_cmp_ge] at c_97
                refine g_iconst C dX11_addRule_104 (v := 0) (by decide) ?_
                refine g_iconst C dX11_addRule_105 (v := 1) (by decide) ?_
                refine g_callViW C dX11_addRule_106 (c_X11_fails_0 _ _ _ _ _ _ _ _ _ _ (by rfl)) tw1412 tw1414 tp14 tw16 tw1415 (rv_X11 C) rfl ⟨by decide +kernel, by decide +kernel, rfl⟩ ⟨rfl, rfl⟩ (by rw [hR]; decide) (Nat.le_of_ble_eq_true rfl) (by rw [hR]; decide) (fun r_75 X1 M1 K1 h_76 => ?_)
                obtain ⟨rfl, hX1, hM1, hK1⟩ := h_76
                subst X1 M1 K1
                refine g_if_ne C dX11_addRule_109 (tgt := 134) (by decide) (fun c_109 => absurd c_109 (by decide)) (fun c_109 => ?_)
                refine g_aload_n C dX11_addRule_112 2 rfl ?_
                refine g_aload_n C dX11_addRule_113 2 rfl ?_
                refine gf_X11_rules C tw1282 dX11_addRule_114 ?_
                refine g_topi hz ?_
                refine g_bipush C dX11_addRule_117 (v := 12) (by decide) ?_
                refine g_icmp_ne C dX11_addRule_119 (tgt := 126) (by decide) (fun c_119 => ?_) (fun c_119 => ?_)
                · try simp only [sa_ap, si_ap, reduceIte, Nat.reduceEqDiff, up_us, lg_cmp_lt, lg_cmp_gt, lg_cmp_le, lg_cmp_ge] at c_119
                  have hlt : z < 12 := Nat.lt_of_le_of_ne hzl (fun q => c_119 (by rw [q]; rfl))
                  refine g_iconst C dX11_addRule_126 (v := 0) (by decide) ?_
                  refine g_iconst C dX11_addRule_127 (v := 2) (by decide) ?_
                  refine g_callViW C dX11_addRule_128 (c_X11_fails_0 _ _ _ _ _ _ _ _ _ _ (by rfl)) tw1412 tw1414 tp14 tw16 tw1415 (rv_X11 C) rfl ⟨by decide +kernel, by decide +kernel, rfl⟩ ⟨rfl, rfl⟩ (by rw [hR]; decide) (Nat.le_of_ble_eq_true rfl) (by rw [hR]; decide) (fun r_77 X1 M1 K1 h_78 => ?_)
                  obtain ⟨rfl, hX1, hM1, hK1⟩ := h_78
                  subst X1 M1 K1
                  refine g_if_eq C dX11_addRule_131 (tgt := 136) (by decide) (fun c_131 => ?_) (fun c_131 => absurd (by decide) c_131)
                  refine g_aload_n C dX11_addRule_136 2 rfl ?_
                  refine gf_X11_kind C tw1283 dX11_addRule_137 ?_
                  refine g_aload_n C dX11_addRule_140 2 rfl ?_
                  refine gf_X11_rules C tw1282 dX11_addRule_141 ?_
                  refine g_topi hz ?_
                  refine g_iload_n C dX11_addRule_144 3 rfl ?_
                  refine as_63 C h1 (by omega) dX11_addRule_145 ?_
                  refine g_aload_n C dX11_addRule_146 2 rfl ?_
                  refine gf_X11_about C tw1284 dX11_addRule_147 ?_
                  refine g_aload_n C dX11_addRule_150 2 rfl ?_
                  refine gf_X11_rules C tw1282 dX11_addRule_151 ?_
                  refine g_topi hz ?_
                  refine g_iload_n C dX11_addRule_154 4 rfl ?_
                  refine as_64 C (by omega) dX11_addRule_155 ?_
                  refine g_aload_n C dX11_addRule_156 2 rfl ?_
                  refine gf_X11_least C tw1285 dX11_addRule_157 ?_
                  refine g_aload_n C dX11_addRule_160 2 rfl ?_
                  refine gf_X11_rules C tw1282 dX11_addRule_161 ?_
                  refine g_topi hz ?_
                  refine g_iload_n C dX11_addRule_164 5 rfl ?_
                  refine as_65 C (by omega) dX11_addRule_165 ?_
                  refine g_aload_n C dX11_addRule_166 2 rfl ?_
                  refine gf_X11_greatest C tw1286 dX11_addRule_167 ?_
                  refine g_aload_n C dX11_addRule_170 2 rfl ?_
                  refine gf_X11_rules C tw1282 dX11_addRule_171 ?_
                  refine g_topi hz ?_
                  refine g_iload C dX11_addRule_174 6 rfl ?_
                  refine as_66 C (by omega) dX11_addRule_176 ?_
                  refine g_aload_n C dX11_addRule_177 2 rfl ?_
                  refine gf_X11_seconds C tw1287 dX11_addRule_178 ?_
                  refine g_aload_n C dX11_addRule_181 2 rfl ?_
                  refine gf_X11_rules C tw1282 dX11_addRule_182 ?_
                  refine g_topi hz ?_
                  refine g_iload C dX11_addRule_185 7 rfl ?_
                  refine as_67 C (by omega) dX11_addRule_187 ?_
                  refine g_aload_n C dX11_addRule_188 2 rfl ?_
                  refine g_dup C dX11_addRule_189 rfl ?_
                  refine gf_X11_rules C tw1282 dX11_addRule_190 ?_
                  refine g_topi hz ?_
                  refine g_iconst C dX11_addRule_193 (v := 1) (by decide) ?_
                  refine g_iadd C dX11_addRule_194 ?_
                  refine pf_X11_rules C tw1282 dX11_addRule_195 ?_
                  refine g_aload_n C dX11_addRule_198 2 rfl ?_
                  refine gf_X11_rules C tw1282 dX11_addRule_199 ?_
                  refine g_topi rfl ?_
                  refine g_iconst C dX11_addRule_202 (v := 1) (by decide) ?_
                  refine g_isub C dX11_addRule_203 ?_
                  refine g_topi (y := nI z) (by show nI z + 1 - 1 = nI z; rw [nI_1, nI_pred]) ?_
                  refine g_iretW C hr hQ (Nat.le_refl _) (Nat.le_refl _) dX11_addRule_204 ?_
                  exact ⟨(by first | with_reducible rfl | (subst er_1 er_67 er_73; first | with_reducible rfl | (simp only [sa_ap, si_ap, si_sa, sa_sa, sa_3, sa_4, sa_5, sa_6, sa_7, sa_8, xs_rule, ab_ok, hz, up_us, up_up, xs_b, c_11, c_24, c_30, c_36, c_60, c_84, c_97, c_119]; done) | (simp [sa_ap, si_ap, si_sa, sa_sa, sa_3, sa_4, sa_5, sa_6, sa_7, sa_8, xs_rule, ab_ok, hz, up_us, up_up, xs_b, c_11, c_24, c_30, c_36, c_60, c_84, c_97, c_119]; done))), rfl, (by first | with_reducible rfl | (subst er_1 er_67 er_73; first | with_reducible rfl | (simp only [sa_ap, si_ap, si_sa, sa_sa, sa_3, sa_4, sa_5, sa_6, sa_7, sa_8, xs_rule, ab_ok, hz, up_us, up_up, xs_b, c_11, c_24, c_30, c_36, c_60, c_84, c_97, c_119]; done) | (simp [sa_ap, si_ap, si_sa, sa_sa, sa_3, sa_4, sa_5, sa_6, sa_7, sa_8, xs_rule, ab_ok, hz, up_us, up_up, xs_b, c_11, c_24, c_30, c_36, c_60, c_84, c_97, c_119]; done))), rfl⟩
                · try simp only [sa_ap, si_ap, reduceIte, Nat.reduceEqDiff, up_us, lg_cmp_lt, lg_cmp_gt, lg_cmp_le, lg_cmp_ge] at c_119
                  refine g_iconst C dX11_addRule_122 (v := 1) (by decide) ?_
                  refine g_goto C dX11_addRule_123 (tgt := 127) (by decide) ?_
                  refine g_iconst C dX11_addRule_127 (v := 2) (by decide) ?_
                  refine g_callViW C dX11_addRule_128 (c_X11_fails_1 _ _ _ _ _ _ _ _ _ _ (by rfl) (by decide)) tw1412 tw1414 tp14 tw16 tw1415 (rv_X11 C) rfl ⟨by decide +kernel, by decide +kernel, rfl⟩ ⟨rfl, rfl⟩ (by rw [hR]; decide) (Nat.le_of_ble_eq_true rfl) (by rw [hR]; decide) (fun r_79 X1 M1 K1 h_80 => ?_)
                  obtain ⟨rfl, hX1, hM1, hK1⟩ := h_80
                  subst X1 M1 K1
                  refine g_if_eq C dX11_addRule_131 (tgt := 136) (by decide) (fun c_131 => absurd c_131 (by decide)) (fun c_131 => ?_)
                  refine g_iconst C dX11_addRule_134 (v := 0) (by decide) ?_
                  refine g_iretW C hr hQ (Nat.le_refl _) (Nat.le_refl _) dX11_addRule_135 ?_
                  exact ⟨(by first | with_reducible rfl | (subst er_1 er_67 er_73; first | with_reducible rfl | (simp only [sa_ap, si_ap, si_sa, sa_sa, sa_3, sa_4, sa_5, sa_6, sa_7, sa_8, xs_rule, ab_ok, hz, up_us, up_up, xs_b, c_11, c_24, c_30, c_36, c_60, c_84, c_97, c_119]; done) | (simp [sa_ap, si_ap, si_sa, sa_sa, sa_3, sa_4, sa_5, sa_6, sa_7, sa_8, xs_rule, ab_ok, hz, up_us, up_up, xs_b, c_11, c_24, c_30, c_36, c_60, c_84, c_97, c_119]; done))), rfl, (by first | with_reducible rfl | (subst er_1 er_67 er_73; first | with_reducible rfl | (simp only [sa_ap, si_ap, si_sa, sa_sa, sa_3, sa_4, sa_5, sa_6, sa_7, sa_8, xs_rule, ab_ok, hz, up_us, up_up, xs_b, c_11, c_24, c_30, c_36, c_60, c_84, c_97, c_119]; done) | (simp [sa_ap, si_ap, si_sa, sa_sa, sa_3, sa_4, sa_5, sa_6, sa_7, sa_8, xs_rule, ab_ok, hz, up_us, up_up, xs_b, c_11, c_24, c_30, c_36, c_60, c_84, c_97, c_119]; done))), rfl⟩
              · try simp only [sa_ap, si_ap, reduceIte, Nat.reduceEqDiff, up_us, lg_cmp_lt, lg_cmp_gt, lg_cmp_le, lg_cmp_ge] at c_97
                refine g_iconst C dX11_addRule_100 (v := 1) (by decide) ?_
                refine g_goto C dX11_addRule_101 (tgt := 105) (by decide) ?_
                refine g_iconst C dX11_addRule_105 (v := 1) (by decide) ?_
                refine g_callViW C dX11_addRule_106 (c_X11_fails_1 _ _ _ _ _ _ _ _ _ _ (by rfl) (by decide)) tw1412 tw1414 tp14 tw16 tw1415 (rv_X11 C) rfl ⟨by decide +kernel, by decide +kernel, rfl⟩ ⟨rfl, rfl⟩ (by rw [hR]; decide) (Nat.le_of_ble_eq_true rfl) (by rw [hR]; decide) (fun r_81 X1 M1 K1 h_82 => ?_)
                obtain ⟨rfl, hX1, hM1, hK1⟩ := h_82
                subst X1 M1 K1
                refine g_if_ne C dX11_addRule_109 (tgt := 134) (by decide) (fun c_109 => ?_) (fun c_109 => absurd c_109 (by decide))
                refine g_iconst C dX11_addRule_134 (v := 0) (by decide) ?_
                refine g_iretW C hr hQ (Nat.le_refl _) (Nat.le_refl _) dX11_addRule_135 ?_
                exact ⟨(by first | with_reducible rfl | (subst er_1 er_67 er_73; first | with_reducible rfl | (simp only [sa_ap, si_ap, si_sa, sa_sa, sa_3, sa_4, sa_5, sa_6, sa_7, sa_8, xs_rule, ab_ok, hz, up_us, up_up, xs_b, c_11, c_24, c_30, c_36, c_60, c_84, c_97]; done) | (simp [sa_ap, si_ap, si_sa, sa_sa, sa_3, sa_4, sa_5, sa_6, sa_7, sa_8, xs_rule, ab_ok, hz, up_us, up_up, xs_b, c_11, c_24, c_30, c_36, c_60, c_84, c_97]; done))), rfl, (by first | with_reducible rfl | (subst er_1 er_67 er_73; first | with_reducible rfl | (simp only [sa_ap, si_ap, si_sa, sa_sa, sa_3, sa_4, sa_5, sa_6, sa_7, sa_8, xs_rule, ab_ok, hz, up_us, up_up, xs_b, c_11, c_24, c_30, c_36, c_60, c_84, c_97]; done) | (simp [sa_ap, si_ap, si_sa, sa_sa, sa_3, sa_4, sa_5, sa_6, sa_7, sa_8, xs_rule, ab_ok, hz, up_us, up_up, xs_b, c_11, c_24, c_30, c_36, c_60, c_84, c_97]; done))), rfl⟩

