set_option maxHeartbeats 400000 in
set_option maxRecDepth 100000 in
/-- callOff.callOff -/
theorem c_X11_callOff (l : Launch) (D : va_G) (cy : Nat → ClassId) (A : Nat → Prop) (ad sad : Nat → Nat) (X M : XF) (K : KF) (p1 p2 : Int32) (h1 : isCh p1) (v : Nat) (hv : v < 999999) (hv0 : M 101 0 = nI v) (h16 : 16 ≤ K.2.1 1) (hcap : (kLs K 1 v [83]).2.1 1 < 2 ^ 26) : Met l yX11_callOff (wsA yX11_callOff cX11_callOff 3 none) ({ frames := 7, cells := (kLs K 1 v [83]).2.1 5 - K.2.1 5, slots := (kLs K 1 v [83]).2.1 7 - K.2.1 7, locals := 211 }) (PcW D cy A ad sad X M K [.ref (ad 42), .int p1, .int p2]) (QvW D cy A ad (fun X1 M1 K1 => X1 = X ∧ M1 = co_X M p1 p2 ∧ K1 = kLs K 1 v [83])) ((kLs K 1 v [83]).2.1 5 - K.2.1 5) ((kLs K 1 v [83]).2.1 7 - K.2.1 7) A := by
  refine met_ofW [(0, .ref (ad 42)), (1, .int p1), (2, .int p2)] (by decide +kernel) (Nat.le_of_ble_eq_true rfl) rfl ?_
  intro G C hl hR hL hD hcy hA had hsa hr hQ
  subst hD hcy hA had hsa hl
  have hrc : (gR G).cells = (kLs K 1 v [83]).2.1 5 - K.2.1 5 := by rw [hR]
  have hrs : (gR G).slots = (kLs K 1 v [83]).2.1 7 - K.2.1 7 := by rw [hR]
  refine g_aload_n C dX11_callOff_0 0 rfl ?_
  refine g_bipush C dX11_callOff_1 (v := 115) (by decide) ?_
  refine pf_X11_state C ⟨by decide, by decide⟩ tw1245 dX11_callOff_3 ?_
  refine g_aload_n C dX11_callOff_6 0 rfl ?_
  refine g_iload_n C dX11_callOff_7 1 rfl ?_
  refine pf_X11_cause C h1 tw1252 dX11_callOff_8 ?_
  refine g_aload_n C dX11_callOff_11 0 rfl ?_
  refine g_iload_n C dX11_callOff_12 2 rfl ?_
  refine pf_X11_causeRule C tw1253 dX11_callOff_13 ?_
  refine g_aload_n C dX11_callOff_16 0 rfl ?_
  refine g_bipush C dX11_callOff_17 (v := 83) (by decide) ?_
  have hk := kq (show kLs K 1 v [83] = kLg K 1 v 83 from rfl)
  have gl83 := kLg_le1 (K) v 83
  refine g_callVvW C dX11_callOff_19 (c_X11_note _ _ _ _ _ _ _ _ _ v 83 (by omega) (by decide) hv0 (by omega) (by omega)) tw1631 tw1633 tp29 tw16 tw1634 (rv_X11 C) rfl ⟨by decide +kernel, by decide +kernel, rfl⟩ ⟨rfl, rfl⟩ (by rw [hR]; exact ⟨Nat.le_of_ble_eq_true rfl, Nat.le_of_ble_eq_true rfl⟩) (Nat.le_of_ble_eq_true rfl) (by omega) (fun X1 M1 K1 h_1 => ?_)
  obtain ⟨hX1, hM1, hK1⟩ := h_1
  subst X1 M1 K1
  refine g_vretW C hr hQ (by omega) (by omega) dX11_callOff_22 ?_
  exact ⟨rfl, (by first | with_reducible rfl | (first | with_reducible rfl | (simp only [sa_ap, si_ap, si_sa, sa_sa, sa_3, sa_4, sa_5, sa_6, sa_7, sa_8, co_X, kLs, up_us, up_up, xs_b]; done) | (simp [sa_ap, si_ap, si_sa, sa_sa, sa_3, sa_4, sa_5, sa_6, sa_7, sa_8, co_X, kLs, up_us, up_up, xs_b]; done))), rfl⟩

set_option maxHeartbeats 400000 in
set_option maxRecDepth 100000 in
/-- why.why -/
theorem c_X11_why (l : Launch) (D : va_G) (cy : Nat → ClassId) (A : Nat → Prop) (ad sad : Nat → Nat) (X M : XF) (K : KF) (v z zs z5 z8 : Nat) (hs : okM v z zs z5 z8 M) (hzl : z ≤ 12) (h5 : z5 ≤ 6) (h8 : z8 ≤ 16) (hzk : zs ≤ K.2.1 2) (hk2 : K.2.1 2 < 2 ^ 31) : Met l yX11_why (wsA yX11_why cX11_why 2 (some .char)) ({ frames := 5, cells := 0, slots := 0, locals := 112 }) (PcW D cy A ad sad X M K [.ref (ad 42)]) (QiW D cy A ad (fun r X1 M1 K1 => r = gw_c M K v z zs z5 z8 ∧ X1 = X ∧ M1 = gw_X M K zs z ∧ K1 = K)) 0 0 A := by
  refine met_ofW [(0, .ref (ad 42))] (by decide +kernel) (Nat.le_of_ble_eq_true rfl) rfl ?_
  intro G C hl hR hL hD hcy hA had hsa hr hQ
  subst hD hcy hA had hsa hl
  obtain ⟨hv0, hz8, hz5, hz, hzs, h107, h109, hk63, ho, h0⟩ := id hs
  refine g_iconst C dX11_why_0 (v := 0) (by decide) ?_
  refine g_istore_n C dX11_why_1 (L' := [(1, .int 0), (0, .ref (gad G 42))]) rfl (by rw [hL]; decide) ?_
  have lp2 : ∀ (n i : Nat) (hi : i + n = z) (hf : md_fn M K zs z 0 = md_fn M K zs n i), GH G (WX G X M K) [(0, .ref (gad G 42)), (1, .int (nI i))] 0 0 2 [] := by
    intro n
    induction n with
    | zero =>
      intro i hi hf
      obtain rfl : z = i := by omega
      refine g_iload_n C dX11_why_2 1 rfl ?_
      refine g_aload_n C dX11_why_3 0 rfl ?_
      refine gf_X11_rules C tw1282 dX11_why_4 ?_
      refine g_topi hz ?_
      refine g_icmp_ge C dX11_why_7 (tgt := 36) (by decide) (fun c_7 => ?_) (fun c_7 => absurd (nI_le (a := z) (b := z) (Nat.le_refl _) (by omega)) c_7)
      have c_fn : md_fn M K zs z 0 = -1 := hf.trans rfl
      refine g_aload_n C dX11_why_36 0 rfl ?_
      refine g_iconst C dX11_why_37 (v := (-1)) (by decide) ?_
      refine pf_X11_causeRule C tw1253 dX11_why_38 ?_
      refine g_aload_n C dX11_why_41 0 rfl ?_
      refine g_aload_n C dX11_why_42 0 rfl ?_
      refine gf_X11_count C tw1247 dX11_why_43 ?_
      refine g_callViW C dX11_why_46 (c_X11_markAt _ _ _ _ _ _ _ _ _ _ z5 hz5 h5) tw1461 tw1463 tp18 tw16 tw1464 (rv_X11 C) rfl ⟨by decide +kernel, by decide +kernel, rfl⟩ ⟨rfl, rfl⟩ (by rw [hR]; decide) (Nat.le_of_ble_eq_true rfl) (by rw [hR]; decide) (fun r_1 X1 M1 K1 h_2 => ?_)
      obtain ⟨er_1, hX1, hM1, hK1⟩ := h_2
      subst X1 M1 K1
      try simp only [sa_ap, si_ap, reduceIte, Nat.reduceEqDiff] at er_1
      have c_a := er_1
      refine g_istore_n C dX11_why_49 (L' := [(1, .int r_1), (0, .ref (gad G 42))]) rfl (by rw [hL]; decide) ?_
      refine g_iload_n C dX11_why_50 0 rfl ?_
      refine g_iconst C dX11_why_51 (v := (-1)) (by decide) ?_
      refine g_icmp_eq C dX11_why_52 (tgt := 84) (by decide) (fun c_52 => ?_) (fun c_52 => ?_)
      · try simp only [sa_ap, si_ap, reduceIte, Nat.reduceEqDiff, up_us, lg_cmp_lt, lg_cmp_gt, lg_cmp_le, lg_cmp_ge] at c_52
        rw [c_a] at c_52
        have c_gm : gw_m M z5 z8 = 0 := by first | exact if_pos c_52 | (unfold gw_m; rw [if_neg c_52, c_b, c_cl, if_neg c_65, if_pos c_78])
        refine g_aload_n C dX11_why_84 1 rfl ?_
        refine gf_X11_count C tw1247 dX11_why_85 ?_
        refine g_iconst C dX11_why_88 (v := (-1)) (by decide) ?_
        refine g_icmp_ne C dX11_why_89 (tgt := 112) (by decide) (fun c_89 => ?_) (fun c_89 => ?_)
        · try simp only [sa_ap, si_ap, reduceIte, Nat.reduceEqDiff, up_us, lg_cmp_lt, lg_cmp_gt, lg_cmp_le, lg_cmp_ge] at c_89
          refine g_iconst C dX11_why_112 (v := 0) (by decide) ?_
          refine g_zretW C hr (by decide) hQ (Nat.le_refl _) (Nat.le_refl _) dX11_why_113 ?_
          exact ⟨(by (try unfold gw_c); (all_goals first | rw [if_pos c_fn] | rw [if_neg c_fn] | skip); (all_goals first | rw [if_pos c_gm] | rw [if_neg c_gm] | skip); (all_goals first | rw [if_pos c_89] | rw [if_neg c_89] | skip); (all_goals first | rw [if_pos c_104] | rw [if_neg c_104] | skip); all_goals first | rfl), rfl, (by unfold gw_X; rw [c_fn]), rfl⟩
        · try simp only [sa_ap, si_ap, reduceIte, Nat.reduceEqDiff, up_us, lg_cmp_lt, lg_cmp_gt, lg_cmp_le, lg_cmp_ge] at c_89
          refine g_aload_n C dX11_why_92 1 rfl ?_
          refine gf_X11_second C tw1244 dX11_why_93 ?_
          refine g_iconst C dX11_why_96 (v := 1) (by decide) ?_
          refine g_iadd C dX11_why_97 ?_
          refine g_topi (y := nI (v + 1)) (by show M 101 0 + 1 = _; rw [hv0, nI_1]) ?_
          refine g_i2l C dX11_why_98 ?_
          refine g_aload_n C dX11_why_99 1 rfl ?_
          refine gf_X11_opens C tw1248 dX11_why_100 ?_
          refine g_lcmp C dX11_why_103 ?_
          refine g_if_ge C dX11_why_104 (tgt := 112) (by decide) (fun c_104 => ?_) (fun c_104 => ?_)
          · try simp only [sa_ap, si_ap, reduceIte, Nat.reduceEqDiff, up_us, lg_cmp_lt, lg_cmp_gt, lg_cmp_le, lg_cmp_ge] at c_104
            refine g_iconst C dX11_why_112 (v := 0) (by decide) ?_
            refine g_zretW C hr (by decide) hQ (Nat.le_refl _) (Nat.le_refl _) dX11_why_113 ?_
            exact ⟨(by (try unfold gw_c); (all_goals first | rw [if_pos c_fn] | rw [if_neg c_fn] | skip); (all_goals first | rw [if_pos c_gm] | rw [if_neg c_gm] | skip); (all_goals first | rw [if_pos c_89] | rw [if_neg c_89] | skip); (all_goals first | rw [if_pos c_104] | rw [if_neg c_104] | skip); all_goals first | rfl), rfl, (by unfold gw_X; rw [c_fn]), rfl⟩
          · try simp only [sa_ap, si_ap, reduceIte, Nat.reduceEqDiff, up_us, lg_cmp_lt, lg_cmp_gt, lg_cmp_le, lg_cmp_ge] at c_104
            refine g_bipush C dX11_why_107 (v := 111) (by decide) ?_
            refine g_goto C dX11_why_109 (tgt := 113) (by decide) ?_
            refine g_zretW C hr (by decide) hQ (Nat.le_refl _) (Nat.le_refl _) dX11_why_113 ?_
            exact ⟨(by (try unfold gw_c); (all_goals first | rw [if_pos c_fn] | rw [if_neg c_fn] | skip); (all_goals first | rw [if_pos c_gm] | rw [if_neg c_gm] | skip); (all_goals first | rw [if_pos c_89] | rw [if_neg c_89] | skip); (all_goals first | rw [if_pos c_104] | rw [if_neg c_104] | skip); all_goals first | rfl), rfl, (by unfold gw_X; rw [c_fn]), rfl⟩
      · try simp only [sa_ap, si_ap, reduceIte, Nat.reduceEqDiff, up_us, lg_cmp_lt, lg_cmp_gt, lg_cmp_le, lg_cmp_ge] at c_52
        rw [c_a] at c_52
        obtain ⟨j, hj, ej⟩ := (md_at_cases (M 53) (M 104 0) z5).resolve_left c_52
        have c_b : md_at (M 53) (M 104 0) z5 = nI j := ej
        have c_cl : (nI j).toNatClampNeg = j := nI_clamp (by omega)
        refine g_aload_n C dX11_why_55 1 rfl ?_
        refine g_aload_n C dX11_why_56 1 rfl ?_
        refine gf_X11_markSteps C tw1272 dX11_why_57 ?_
        refine g_iload_n C dX11_why_60 0 rfl ?_
        refine g_topi (c_a.trans c_b) ?_
        refine al_55 C (by omega) dX11_why_61 ?_
        refine g_callViW C dX11_why_62 (c_X11_areDone _ _ _ _ _ _ _ _ _ _ z8 hz8 h8) tw1663 tw1665 tp33 tw16 tw1666 (rv_X11 C) rfl ⟨by decide +kernel, by decide +kernel, rfl⟩ ⟨rfl, rfl⟩ (by rw [hR]; decide) (Nat.le_of_ble_eq_true rfl) (by rw [hR]; decide) (fun r_3 X1 M1 K1 h_4 => ?_)
        obtain ⟨er_3, hX1, hM1, hK1⟩ := h_4
        subst X1 M1 K1
        try simp only [sa_ap, si_ap, reduceIte, Nat.reduceEqDiff] at er_3
        have c_d := er_3
        refine g_if_eq C dX11_why_65 (tgt := 81) (by decide) (fun c_65 => ?_) (fun c_65 => ?_)
        · try simp only [sa_ap, si_ap, reduceIte, Nat.reduceEqDiff, up_us, lg_cmp_lt, lg_cmp_gt, lg_cmp_le, lg_cmp_ge] at c_65
          rw [c_d] at c_65
          have c_gm : ¬ gw_m M z5 z8 = 0 := by first | (unfold gw_m; rw [if_neg c_52, c_b, c_cl, if_pos c_65]; decide) | (unfold gw_m; rw [if_neg c_52, c_b, c_cl, if_neg c_65, if_neg c_78]; decide)
          refine g_bipush C dX11_why_81 (v := 109) (by decide) ?_
          refine g_zretW C hr (by decide) hQ (Nat.le_refl _) (Nat.le_refl _) dX11_why_83 ?_
          exact ⟨(by (try unfold gw_c); (all_goals first | rw [if_pos c_fn] | rw [if_neg c_fn] | skip); (all_goals first | rw [if_pos c_gm] | rw [if_neg c_gm] | skip); (all_goals first | rw [if_pos c_89] | rw [if_neg c_89] | skip); (all_goals first | rw [if_pos c_104] | rw [if_neg c_104] | skip); all_goals first | rfl), rfl, (by unfold gw_X; rw [c_fn]), rfl⟩
        · try simp only [sa_ap, si_ap, reduceIte, Nat.reduceEqDiff, up_us, lg_cmp_lt, lg_cmp_gt, lg_cmp_le, lg_cmp_ge] at c_65
          rw [c_d] at c_65
          refine g_aload_n C dX11_why_68 1 rfl ?_
          refine gf_X11_stayed C tw1251 dX11_why_69 ?_
          refine g_aload_n C dX11_why_72 1 rfl ?_
          refine gf_X11_markSeconds C tw1271 dX11_why_73 ?_
          refine g_iload_n C dX11_why_76 0 rfl ?_
          refine g_topi (c_a.trans c_b) ?_
          refine al_54 C (by omega) dX11_why_77 ?_
          refine g_icmp_ge C dX11_why_78 (tgt := 84) (by decide) (fun c_78 => ?_) (fun c_78 => ?_)
          · try simp only [sa_ap, si_ap, reduceIte, Nat.reduceEqDiff, up_us, lg_cmp_lt, lg_cmp_gt, lg_cmp_le, lg_cmp_ge] at c_78
            have c_gm : gw_m M z5 z8 = 0 := by first | exact if_pos c_52 | (unfold gw_m; rw [if_neg c_52, c_b, c_cl, if_neg c_65, if_pos c_78])
            refine g_aload_n C dX11_why_84 1 rfl ?_
            refine gf_X11_count C tw1247 dX11_why_85 ?_
            refine g_iconst C dX11_why_88 (v := (-1)) (by decide) ?_
            refine g_icmp_ne C dX11_why_89 (tgt := 112) (by decide) (fun c_89 => ?_) (fun c_89 => ?_)
            · try simp only [sa_ap, si_ap, reduceIte, Nat.reduceEqDiff, up_us, lg_cmp_lt, lg_cmp_gt, lg_cmp_le, lg_cmp_ge] at c_89
              refine g_iconst C dX11_why_112 (v := 0) (by decide) ?_
              refine g_zretW C hr (by decide) hQ (Nat.le_refl _) (Nat.le_refl _) dX11_why_113 ?_
              exact ⟨(by (try unfold gw_c); (all_goals first | rw [if_pos c_fn] | rw [if_neg c_fn] | skip); (all_goals first | rw [if_pos c_gm] | rw [if_neg c_gm] | skip); (all_goals first | rw [if_pos c_89] | rw [if_neg c_89] | skip); (all_goals first | rw [if_pos c_104] | rw [if_neg c_104] | skip); all_goals first | rfl), rfl, (by unfold gw_X; rw [c_fn]), rfl⟩
            · try simp only [sa_ap, si_ap, reduceIte, Nat.reduceEqDiff, up_us, lg_cmp_lt, lg_cmp_gt, lg_cmp_le, lg_cmp_ge] at c_89
              refine g_aload_n C dX11_why_92 1 rfl ?_
              refine gf_X11_second C tw1244 dX11_why_93 ?_
              refine g_iconst C dX11_why_96 (v := 1) (by decide) ?_
              refine g_iadd C dX11_why_97 ?_
              refine g_topi (y := nI (v + 1)) (by show M 101 0 + 1 = _; rw [hv0, nI_1]) ?_
              refine g_i2l C dX11_why_98 ?_
              refine g_aload_n C dX11_why_99 1 rfl ?_
              refine gf_X11_opens C tw1248 dX11_why_100 ?_
              refine g_lcmp C dX11_why_103 ?_
              refine g_if_ge C dX11_why_104 (tgt := 112) (by decide) (fun c_104 => ?_) (fun c_104 => ?_)
              · try simp only [sa_ap, si_ap, reduceIte, Nat.reduceEqDiff, up_us, lg_cmp_lt, lg_cmp_gt, lg_cmp_le, lg_cmp_ge] at c_104
                refine g_iconst C dX11_why_112 (v := 0) (by decide) ?_
                refine g_zretW C hr (by decide) hQ (Nat.le_refl _) (Nat.le_refl _) dX11_why_113 ?_
                exact ⟨(by (try unfold gw_c); (all_goals first | rw [if_pos c_fn] | rw [if_neg c_fn] | skip); (all_goals first | rw [if_pos c_gm] | rw [if_neg c_gm] | skip); (all_goals first | rw [if_pos c_89] | rw [if_neg c_89] | skip); (all_goals first | rw [if_pos c_104] | rw [if_neg c_104] | skip); all_goals first | rfl), rfl, (by unfold gw_X; rw [c_fn]), rfl⟩
              · try simp only [sa_ap, si_ap, reduceIte, Nat.reduceEqDiff, up_us, lg_cmp_lt, lg_cmp_gt, lg_cmp_le, lg_cmp_ge] at c_104
                refine g_bipush C dX11_why_107 (v := 111) (by decide) ?_
                refine g_goto C dX11_why_109 (tgt := 113) (by decide) ?_
                refine g_zretW C hr (by decide) hQ (Nat.le_refl _) (Nat.le_refl _) dX11_why_113 ?_
                exact ⟨(by (try unfold gw_c); (all_goals first | rw [if_pos c_fn] | rw [if_neg c_fn] | skip); (all_goals first | rw [if_pos c_gm] | rw [if_neg c_gm] | skip); (all_goals first | rw [if_pos c_89] | rw [if_neg c_89] | skip); (all_goals first | rw [if_pos c_104] | rw [if_neg c_104] | skip); all_goals first | rfl), rfl, (by unfold gw_X; rw [c_fn]), rfl⟩
          · try simp only [sa_ap, si_ap, reduceIte, Nat.reduceEqDiff, up_us, lg_cmp_lt, lg_cmp_gt, lg_cmp_le, lg_cmp_ge] at c_78
            have c_gm : ¬ gw_m M z5 z8 = 0 := by first | (unfold gw_m; rw [if_neg c_52, c_b, c_cl, if_pos c_65]; decide) | (unfold gw_m; rw [if_neg c_52, c_b, c_cl, if_neg c_65, if_neg c_78]; decide)
            refine g_bipush C dX11_why_81 (v := 109) (by decide) ?_
            refine g_zretW C hr (by decide) hQ (Nat.le_refl _) (Nat.le_refl _) dX11_why_83 ?_
            exact ⟨(by (try unfold gw_c); (all_goals first | rw [if_pos c_fn] | rw [if_neg c_fn] | skip); (all_goals first | rw [if_pos c_gm] | rw [if_neg c_gm] | skip); (all_goals first | rw [if_pos c_89] | rw [if_neg c_89] | skip); (all_goals first | rw [if_pos c_104] | rw [if_neg c_104] | skip); all_goals first | rfl), rfl, (by unfold gw_X; rw [c_fn]), rfl⟩
    | succ n ih =>
      intro i hi hf
      refine g_iload_n C dX11_why_2 1 rfl ?_
      refine g_aload_n C dX11_why_3 0 rfl ?_
      refine gf_X11_rules C tw1282 dX11_why_4 ?_
      refine g_topi hz ?_
      refine g_icmp_ge C dX11_why_7 (tgt := 36) (by decide) (fun c_7 => absurd c_7 (nI_ge (a := i) (b := z) (by omega) (by omega))) (fun c_7 => ?_)
      refine g_aload_n C dX11_why_10 0 rfl ?_
      refine g_iload_n C dX11_why_11 1 rfl ?_
      refine g_callViW C dX11_why_12 (c_X11_isMetNow _ _ _ _ _ _ _ _ _ i (by omega) (ho i (by omega)) zs hzs hzk hk2 h0) tw1613 tw1615 tp26 tw16 tw1616 (rv_X11 C) rfl ⟨by decide +kernel, by decide +kernel, rfl⟩ ⟨rfl, rfl⟩ (by rw [hR]; decide) (Nat.le_of_ble_eq_true rfl) (by rw [hR]; decide) (fun r_5 X1 M1 K1 h_6 => ?_)
      obtain ⟨er_5, hX1, hM1, hK1⟩ := h_6
      subst X1 M1 K1
      try simp only [sa_ap, si_ap, reduceIte, Nat.reduceEqDiff] at er_5
      have c_m := er_5
      refine g_if_ne C dX11_why_15 (tgt := 30) (by decide) (fun c_15 => ?_) (fun c_15 => ?_)
      · try simp only [sa_ap, si_ap, reduceIte, Nat.reduceEqDiff, up_us, lg_cmp_lt, lg_cmp_gt, lg_cmp_le, lg_cmp_ge] at c_15
        rw [c_m] at c_15
        refine g_iinc C dX11_why_30 1 rfl (v := nI (i + 1)) (nI_1 _) (L' := [(1, .int (nI (i + 1))), (0, .ref (gad G 42))]) rfl (by rw [hL]; decide) ?_
        refine g_goto C dX11_why_33 (tgt := 2) (by decide) ?_
        exact g_sub [1, 0] rfl (ih (i + 1) (by omega) (by rw [hf]; exact if_neg c_15))
      · try simp only [sa_ap, si_ap, reduceIte, Nat.reduceEqDiff, up_us, lg_cmp_lt, lg_cmp_gt, lg_cmp_le, lg_cmp_ge] at c_15
        rw [c_m] at c_15
        have c_fn : md_fn M K zs z 0 = nI i := by rw [hf]; exact if_pos c_15
        have c_cl : (nI i).toNatClampNeg = i := nI_clamp (by omega)
        have c_ne : ¬ md_fn M K zs z 0 = -1 := by rw [c_fn]; exact nI_ne (by omega)
        refine g_aload_n C dX11_why_18 0 rfl ?_
        refine g_iload_n C dX11_why_19 1 rfl ?_
        refine pf_X11_causeRule C tw1253 dX11_why_20 ?_
        refine g_aload_n C dX11_why_23 0 rfl ?_
        refine gf_X11_kind C tw1283 dX11_why_24 ?_
        refine g_iload_n C dX11_why_27 1 rfl ?_
        refine al_63 C (by omega) dX11_why_28 ?_
        refine g_zretW C hr (hk63 _).1 hQ (Nat.le_refl _) (Nat.le_refl _) dX11_why_29 ?_
        exact ⟨(by unfold gw_c; rw [if_neg c_ne, c_fn, c_cl]; rfl), rfl, (by unfold gw_X; rw [c_fn]), rfl⟩
  exact g_sub [1, 0] rfl (lp2 (z) 0 (by omega) rfl)

set_option maxHeartbeats 1000000 in
set_option maxRecDepth 100000 in
/-- goCount.goCount -/
theorem c_X11_goCount (l : Launch) (D : va_G) (cy : Nat → ClassId) (A : Nat → Prop) (ad sad : Nat → Nat) (X M : XF) (K : KF) (v z zs z5 z8 : Nat) (hs : okM v z zs z5 z8 M) (hzl : z ≤ 12) (h5 : z5 ≤ 6) (h8 : z8 ≤ 16) (hzk : zs ≤ K.2.1 2) (hk2 : K.2.1 2 < 2 ^ 31) (hv : v < 999999) (h16 : 16 ≤ K.2.1 1) (hcap : (kLs K 1 v (gc_A v z zs z5 z8 M K).2).2.1 1 < 2 ^ 26) : Met l yX11_goCount (wsA yX11_goCount cX11_goCount 1 none) ({ frames := 8, cells := (kLs K 1 v (gc_A v z zs z5 z8 M K).2).2.1 5 - K.2.1 5, slots := (kLs K 1 v (gc_A v z zs z5 z8 M K).2).2.1 7 - K.2.1 7, locals := 233 }) (PcW D cy A ad sad X M K [.ref (ad 42)]) (QvW D cy A ad (fun X1 M1 K1 => X1 = X ∧ M1 = (gc_A v z zs z5 z8 M K).1 ∧ K1 = kLs K 1 v (gc_A v z zs z5 z8 M K).2)) ((kLs K 1 v (gc_A v z zs z5 z8 M K).2).2.1 5 - K.2.1 5) ((kLs K 1 v (gc_A v z zs z5 z8 M K).2).2.1 7 - K.2.1 7) A := by
  refine met_ofW [(0, .ref (ad 42))] (by decide +kernel) (Nat.le_of_ble_eq_true rfl) rfl ?_
  intro G C hl hR hL hD hcy hA had hsa hr hQ
  subst hD hcy hA had hsa hl
  have hrc : (gR G).cells = (kLs K 1 v (gc_A v z zs z5 z8 M K).2).2.1 5 - K.2.1 5 := by rw [hR]
  have hrs : (gR G).slots = (kLs K 1 v (gc_A v z zs z5 z8 M K).2).2.1 7 - K.2.1 7 := by rw [hR]
  obtain ⟨hv0, hz8, hz5, hz, hzs, h107, h109, hk63, ho, h0⟩ := id hs
  have ht : (kLs K 1 v (gc_1 M K v z zs z5 z8).2).2.1 1 ≤ (kLs K 1 v (gc_A v z zs z5 z8 M K).2).2.1 1 ∧ (kLs K 1 v (gc_1 M K v z zs z5 z8).2).2.1 5 ≤ (kLs K 1 v (gc_A v z zs z5 z8 M K).2).2.1 5 ∧ (kLs K 1 v (gc_1 M K v z zs z5 z8).2).2.1 7 ≤ (kLs K 1 v (gc_A v z zs z5 z8 M K).2).2.1 7 := gc_t_le K v K.1 _
  have hl := kLs_le1 v (gc_1 M K v z zs z5 z8).2 K
  have hch := gc_1_ch M K v z zs z5 z8 hk63 h109
  have hJ := (kLs_k2 v (gc_1 M K v z zs z5 z8).2 K).2
  have j_118 : GH G (WX G X (gc_1 M K v z zs z5 z8).1 (kLs K 1 v (gc_1 M K v z zs z5 z8).2)) [(0, .ref (gad G 42))] ((kLs K 1 v (gc_1 M K v z zs z5 z8).2).2.1 5 - K.2.1 5) ((kLs K 1 v (gc_1 M K v z zs z5 z8).2).2.1 7 - K.2.1 7) 118 [] := by
    refine g_aload_n C dX11_goCount_118 0 rfl ?_
    refine gf_X11_second C tw1244 dX11_goCount_119 ?_
    refine g_topi (y := nI v) (by rw [gc_1_k _ _ _ _ _ _ _ (by decide)]; exact hv0) ?_
    refine g_i2l C dX11_goCount_122 ?_
    refine g_lconst C dX11_goCount_123 (v := 1) (by decide) ?_
    refine g_ladd C dX11_goCount_124 ?_
    refine g_aload_n C dX11_goCount_125 0 rfl ?_
    refine gf_X11_count C tw1247 dX11_goCount_126 ?_
    refine g_i2l C dX11_goCount_129 ?_
    refine g_lsub C dX11_goCount_130 ?_
    refine g_aload_n C dX11_goCount_131 0 rfl ?_
    refine gf_X11_shuts C tw1249 dX11_goCount_132 ?_
    refine g_lcmp C dX11_goCount_135 ?_
    refine g_if_le C dX11_goCount_136 (tgt := 166) (by decide) (fun c_136 => ?_) (fun c_136 => ?_)
    · try simp only [sa_ap, si_ap, reduceIte, Nat.reduceEqDiff, up_us, lg_cmp_lt, lg_cmp_gt, lg_cmp_le, lg_cmp_ge] at c_136
      rw [hJ] at c_136
      refine g_aload_n C dX11_goCount_166 0 rfl ?_
      refine gf_X11_count C tw1247 dX11_goCount_167 ?_
      refine g_if_ne C dX11_goCount_170 (tgt := 195) (by decide) (fun c_170 => ?_) (fun c_170 => ?_)
      · try simp only [sa_ap, si_ap, reduceIte, Nat.reduceEqDiff, up_us, lg_cmp_lt, lg_cmp_gt, lg_cmp_le, lg_cmp_ge] at c_170
        refine g_vretW C hr hQ (by omega) (by omega) dX11_goCount_195 ?_
        exact ⟨rfl, (by (try unfold gc_A); (try unfold gc_t); (try unfold co_X); (all_goals first | rw [if_pos c_136] | rw [if_neg c_136] | skip); (all_goals first | rw [if_pos c_144] | rw [if_neg c_144] | skip); (all_goals first | rw [if_pos c_170] | rw [if_neg c_170] | skip); all_goals first | rfl), (by (try unfold gc_A); (try unfold gc_t); (all_goals first | rw [if_pos c_136] | rw [if_neg c_136] | skip); (all_goals first | rw [if_pos c_144] | rw [if_neg c_144] | skip); (all_goals first | rw [if_pos c_170] | rw [if_neg c_170] | skip); all_goals first | with_reducible rfl | (simp only [kLs_1, kLs_0, kLs_app]; done))⟩
      · try simp only [sa_ap, si_ap, reduceIte, Nat.reduceEqDiff, up_us, lg_cmp_lt, lg_cmp_gt, lg_cmp_le, lg_cmp_ge] at c_170
        refine g_aload_n C dX11_goCount_173 0 rfl ?_
        refine g_bipush C dX11_goCount_174 (v := 102) (by decide) ?_
        refine pf_X11_state C ⟨by decide, by decide⟩ tw1245 dX11_goCount_176 ?_
        refine g_aload_n C dX11_goCount_179 0 rfl ?_
        refine g_iconst C dX11_goCount_180 (v := 0) (by decide) ?_
        refine pf_X11_flown C tw1256 dX11_goCount_181 ?_
        refine g_aload_n C dX11_goCount_184 0 rfl ?_
        refine g_iconst C dX11_goCount_185 (v := 0) (by decide) ?_
        refine pf_X11_unlike C tw1257 dX11_goCount_186 ?_
        refine g_aload_n C dX11_goCount_189 0 rfl ?_
        refine g_bipush C dX11_goCount_190 (v := 70) (by decide) ?_
        have hk3 := kq (show kLs K 1 v (gc_A v z zs z5 z8 M K).2 = kLg (kLs K 1 v (gc_1 M K v z zs z5 z8).2) 1 v 70 from (by (try unfold gc_A); (try unfold gc_t); (all_goals first | rw [if_pos c_136] | rw [if_neg c_136] | skip); (all_goals first | rw [if_pos c_144] | rw [if_neg c_144] | skip); (all_goals first | rw [if_pos c_170] | rw [if_neg c_170] | skip); all_goals first | with_reducible rfl | (simp only [kLs_1, kLs_0, kLs_app]; done)))
        have gl70 := kLg_le1 (kLs K 1 v (gc_1 M K v z zs z5 z8).2) v 70
        refine g_callVvW C dX11_goCount_192 (c_X11_note _ _ _ _ _ _ _ _ _ v 70 (by omega) (by decide) (by show (gc_1 M K v z zs z5 z8).1 101 0 = nI v; rw [gc_1_k _ _ _ _ _ _ _ (by decide)]; exact hv0) (by omega) (by omega)) tw1631 tw1633 tp29 tw16 tw1634 (rv_X11 C) rfl ⟨by decide +kernel, by decide +kernel, rfl⟩ ⟨rfl, rfl⟩ (by rw [hR]; exact ⟨Nat.le_of_ble_eq_true rfl, Nat.le_of_ble_eq_true rfl⟩) (Nat.le_of_ble_eq_true rfl) (by omega) (fun X1 M1 K1 h_1 => ?_)
        obtain ⟨hX1, hM1, hK1⟩ := h_1
        subst X1 M1 K1
        refine g_vretW C hr hQ (by omega) (by omega) dX11_goCount_195 ?_
        exact ⟨rfl, (by (try unfold gc_A); (try unfold gc_t); (try unfold co_X); (all_goals first | rw [if_pos c_136] | rw [if_neg c_136] | skip); (all_goals first | rw [if_pos c_144] | rw [if_neg c_144] | skip); (all_goals first | rw [if_pos c_170] | rw [if_neg c_170] | skip); all_goals first | rfl), (by (try unfold gc_A); (try unfold gc_t); (all_goals first | rw [if_pos c_136] | rw [if_neg c_136] | skip); (all_goals first | rw [if_pos c_144] | rw [if_neg c_144] | skip); (all_goals first | rw [if_pos c_170] | rw [if_neg c_170] | skip); all_goals first | with_reducible rfl | (simp only [kLs_1, kLs_0, kLs_app]; done))⟩
    · try simp only [sa_ap, si_ap, reduceIte, Nat.reduceEqDiff, up_us, lg_cmp_lt, lg_cmp_gt, lg_cmp_le, lg_cmp_ge] at c_136
      rw [hJ] at c_136
      refine g_aload_n C dX11_goCount_139 0 rfl ?_
      refine g_aload_n C dX11_goCount_140 0 rfl ?_
      refine gf_X11_firstCause C tw1254 dX11_goCount_141 ?_
      refine g_if_ne C dX11_goCount_144 (tgt := 152) (by decide) (fun c_144 => ?_) (fun c_144 => ?_)
      · try simp only [sa_ap, si_ap, reduceIte, Nat.reduceEqDiff, up_us, lg_cmp_lt, lg_cmp_gt, lg_cmp_le, lg_cmp_ge] at c_144
        refine g_aload_n C dX11_goCount_152 0 rfl ?_
        refine gf_X11_firstCause C tw1254 dX11_goCount_153 ?_
        refine g_aload_n C dX11_goCount_156 0 rfl ?_
        refine gf_X11_firstRule C tw1255 dX11_goCount_157 ?_
        have hk3 := kq (show kLs K 1 v (gc_A v z zs z5 z8 M K).2 = kLs (kLs K 1 v (gc_1 M K v z zs z5 z8).2) 1 v [83] from (by (try unfold gc_A); (try unfold gc_t); (all_goals first | rw [if_pos c_136] | rw [if_neg c_136] | skip); (all_goals first | rw [if_pos c_144] | rw [if_neg c_144] | skip); (all_goals first | rw [if_pos c_170] | rw [if_neg c_170] | skip); all_goals first | with_reducible rfl | (simp only [kLs_1, kLs_0, kLs_app]; done)))
        have hl3 := kLs_le1 v [83] (kLs K 1 v (gc_1 M K v z zs z5 z8).2)
        refine g_callVvW C dX11_goCount_160 (c_X11_callOff _ _ _ _ _ _ _ _ _ _ _ (by first | exact ⟨by decide, by decide⟩ | exact hch.2) v hv (by rw [gc_1_k _ _ _ _ _ _ _ (by decide)]; exact hv0) (by omega) (by omega)) tw1645 tw1647 tp30 tw16 tw1648 (rv_X11 C) rfl ⟨by decide +kernel, by decide +kernel, rfl⟩ ⟨rfl, rfl⟩ (by rw [hR]; exact ⟨Nat.le_of_ble_eq_true rfl, Nat.le_of_ble_eq_true rfl⟩) (Nat.le_of_ble_eq_true rfl) (by omega) (fun X1 M1 K1 h_2 => ?_)
        obtain ⟨hX1, hM1, hK1⟩ := h_2
        subst X1 M1 K1
        refine g_goto C dX11_goCount_163 (tgt := 195) (by decide) ?_
        refine g_vretW C hr hQ (by omega) (by omega) dX11_goCount_195 ?_
        exact ⟨rfl, (by (try unfold gc_A); (try unfold gc_t); (try unfold co_X); (all_goals first | rw [if_pos c_136] | rw [if_neg c_136] | skip); (all_goals first | rw [if_pos c_144] | rw [if_neg c_144] | skip); (all_goals first | rw [if_pos c_170] | rw [if_neg c_170] | skip); all_goals first | rfl), (by (try unfold gc_A); (try unfold gc_t); (all_goals first | rw [if_pos c_136] | rw [if_neg c_136] | skip); (all_goals first | rw [if_pos c_144] | rw [if_neg c_144] | skip); (all_goals first | rw [if_pos c_170] | rw [if_neg c_170] | skip); all_goals first | with_reducible rfl | (simp only [kLs_1, kLs_0, kLs_app]; done))⟩
      · try simp only [sa_ap, si_ap, reduceIte, Nat.reduceEqDiff, up_us, lg_cmp_lt, lg_cmp_gt, lg_cmp_le, lg_cmp_ge] at c_144
        refine g_bipush C dX11_goCount_147 (v := 111) (by decide) ?_
        refine g_goto C dX11_goCount_149 (tgt := 156) (by decide) ?_
        refine g_aload_n C dX11_goCount_156 0 rfl ?_
        refine gf_X11_firstRule C tw1255 dX11_goCount_157 ?_
        have hk3 := kq (show kLs K 1 v (gc_A v z zs z5 z8 M K).2 = kLs (kLs K 1 v (gc_1 M K v z zs z5 z8).2) 1 v [83] from (by (try unfold gc_A); (try unfold gc_t); (all_goals first | rw [if_pos c_136] | rw [if_neg c_136] | skip); (all_goals first | rw [if_pos c_144] | rw [if_neg c_144] | skip); (all_goals first | rw [if_pos c_170] | rw [if_neg c_170] | skip); all_goals first | with_reducible rfl | (simp only [kLs_1, kLs_0, kLs_app]; done)))
        have hl3 := kLs_le1 v [83] (kLs K 1 v (gc_1 M K v z zs z5 z8).2)
        refine g_callVvW C dX11_goCount_160 (c_X11_callOff _ _ _ _ _ _ _ _ _ _ _ (by first | exact ⟨by decide, by decide⟩ | exact hch.2) v hv (by rw [gc_1_k _ _ _ _ _ _ _ (by decide)]; exact hv0) (by omega) (by omega)) tw1645 tw1647 tp30 tw16 tw1648 (rv_X11 C) rfl ⟨by decide +kernel, by decide +kernel, rfl⟩ ⟨rfl, rfl⟩ (by rw [hR]; exact ⟨Nat.le_of_ble_eq_true rfl, Nat.le_of_ble_eq_true rfl⟩) (Nat.le_of_ble_eq_true rfl) (by omega) (fun X1 M1 K1 h_3 => ?_)
        obtain ⟨hX1, hM1, hK1⟩ := h_3
        subst X1 M1 K1
        refine g_goto C dX11_goCount_163 (tgt := 195) (by decide) ?_
        refine g_vretW C hr hQ (by omega) (by omega) dX11_goCount_195 ?_
        exact ⟨rfl, (by (try unfold gc_A); (try unfold gc_t); (try unfold co_X); (all_goals first | rw [if_pos c_136] | rw [if_neg c_136] | skip); (all_goals first | rw [if_pos c_144] | rw [if_neg c_144] | skip); (all_goals first | rw [if_pos c_170] | rw [if_neg c_170] | skip); all_goals first | rfl), (by (try unfold gc_A); (try unfold gc_t); (all_goals first | rw [if_pos c_136] | rw [if_neg c_136] | skip); (all_goals first | rw [if_pos c_144] | rw [if_neg c_144] | skip); (all_goals first | rw [if_pos c_170] | rw [if_neg c_170] | skip); all_goals first | with_reducible rfl | (simp only [kLs_1, kLs_0, kLs_app]; done))⟩
  refine g_aload_n C dX11_goCount_0 0 rfl ?_
  refine g_aload_n C dX11_goCount_1 0 rfl ?_
  refine g_callViW C dX11_goCount_2 (c_X11_why _ _ _ _ _ _ _ _ _ v z zs z5 z8 hs hzl h5 h8 hzk hk2) tw1671 tw1673 tp35 tw16 tw1674 (rv_X11 C) rfl ⟨by decide +kernel, by decide +kernel, rfl⟩ ⟨rfl, rfl⟩ (by rw [hR]; exact ⟨Nat.le_of_ble_eq_true rfl, Nat.le_of_ble_eq_true rfl⟩) (Nat.le_of_ble_eq_true rfl) (by omega) (fun r_4 X1 M1 K1 h_5 => ?_)
  obtain ⟨er_4, hX1, hM1, hK1⟩ := h_5
  subst X1 M1 K1
  try simp only [sa_ap, si_ap, reduceIte, Nat.reduceEqDiff] at er_4
  have c_w := er_4
  refine pf_X11_cause C (by rw [c_w]; exact gw_c_ch M K v z zs z5 z8 hk63) tw1252 dX11_goCount_5 ?_
  refine g_M (M' := gc_0 M K v z zs z5 z8) (by show si (gw_X M K zs z) 107 _ = _; rw [c_w]; rfl) ?_
  refine g_aload_n C dX11_goCount_8 0 rfl ?_
  refine gf_X11_cause C tw1252 dX11_goCount_9 ?_
  refine g_topi (y := gw_c M K v z zs z5 z8) (by rfl) ?_
  refine g_if_eq C dX11_goCount_12 (tgt := 82) (by decide) (fun c_12 => ?_) (fun c_12 => ?_)
  · try simp only [sa_ap, si_ap, reduceIte, Nat.reduceEqDiff, up_us, lg_cmp_lt, lg_cmp_gt, lg_cmp_le, lg_cmp_ge] at c_12
    refine g_aload_n C dX11_goCount_82 0 rfl ?_
    refine gf_X11_state C tw1245 dX11_goCount_83 ?_
    refine g_bipush C dX11_goCount_86 (v := 104) (by decide) ?_
    refine g_icmp_ne C dX11_goCount_88 (tgt := 103) (by decide) (fun c_88 => ?_) (fun c_88 => ?_)
    · try simp only [sa_ap, si_ap, reduceIte, Nat.reduceEqDiff, up_us, lg_cmp_lt, lg_cmp_gt, lg_cmp_le, lg_cmp_ge] at c_88
      refine g_aload_n C dX11_goCount_103 0 rfl ?_
      refine g_dup C dX11_goCount_104 rfl ?_
      refine gf_X11_count C tw1247 dX11_goCount_105 ?_
      refine g_iconst C dX11_goCount_108 (v := 1) (by decide) ?_
      refine g_iadd C dX11_goCount_109 ?_
      refine pf_X11_count C tw1247 dX11_goCount_110 ?_
      refine g_aload_n C dX11_goCount_113 0 rfl ?_
      refine g_iconst C dX11_goCount_114 (v := 0) (by decide) ?_
      refine pf_X11_stayed C tw1251 dX11_goCount_115 ?_
      exact g_sub [0] rfl (g_toM (by (try unfold gc_1); (try unfold gc_a); (try unfold gc_b); (try unfold gc_g); (all_goals first | rw [if_pos c_12] | rw [if_neg c_12] | skip); (all_goals first | rw [if_pos c_64] | rw [if_neg c_64] | skip); (all_goals first | rw [if_pos c_88] | rw [if_neg c_88] | skip); all_goals first | rfl) (by (try unfold gc_1); (try unfold gc_a); (try unfold gc_b); (try unfold gc_g); (all_goals first | rw [if_pos c_12] | rw [if_neg c_12] | skip); (all_goals first | rw [if_pos c_64] | rw [if_neg c_64] | skip); (all_goals first | rw [if_pos c_88] | rw [if_neg c_88] | skip); all_goals first | with_reducible rfl | (simp only [kLs_1, kLs_0, kLs_app]; done)) (by (try unfold gc_1); (try unfold gc_a); (try unfold gc_b); (try unfold gc_g); (all_goals first | rw [if_pos c_12] | rw [if_neg c_12] | skip); (all_goals first | rw [if_pos c_64] | rw [if_neg c_64] | skip); (all_goals first | rw [if_pos c_88] | rw [if_neg c_88] | skip); all_goals first | omega | (simp only [kLs_1, kLs_0, kLs_app]; omega)) (by (try unfold gc_1); (try unfold gc_a); (try unfold gc_b); (try unfold gc_g); (all_goals first | rw [if_pos c_12] | rw [if_neg c_12] | skip); (all_goals first | rw [if_pos c_64] | rw [if_neg c_64] | skip); (all_goals first | rw [if_pos c_88] | rw [if_neg c_88] | skip); all_goals first | omega | (simp only [kLs_1, kLs_0, kLs_app]; omega)) j_118)
    · try simp only [sa_ap, si_ap, reduceIte, Nat.reduceEqDiff, up_us, lg_cmp_lt, lg_cmp_gt, lg_cmp_le, lg_cmp_ge] at c_88
      refine g_aload_n C dX11_goCount_91 0 rfl ?_
      refine g_bipush C dX11_goCount_92 (v := 99) (by decide) ?_
      refine pf_X11_state C ⟨by decide, by decide⟩ tw1245 dX11_goCount_94 ?_
      refine g_aload_n C dX11_goCount_97 0 rfl ?_
      refine g_bipush C dX11_goCount_98 (v := 71) (by decide) ?_
      have hk1 := kq (show kLs K 1 v (gc_1 M K v z zs z5 z8).2 = kLg K 1 v 71 from (by (try unfold gc_1); (try unfold gc_a); (try unfold gc_b); (try unfold gc_g); (all_goals first | rw [if_pos c_12] | rw [if_neg c_12] | skip); (all_goals first | rw [if_pos c_64] | rw [if_neg c_64] | skip); (all_goals first | rw [if_pos c_88] | rw [if_neg c_88] | skip); all_goals first | with_reducible rfl | (simp only [kLs_1, kLs_0, kLs_app]; done)))
      have gl71 := kLg_le1 (K) v 71
      refine g_callVvW C dX11_goCount_100 (c_X11_note _ _ _ _ _ _ _ _ _ v 71 (by omega) (by decide) (by show (gc_0 M K v z zs z5 z8) 101 0 = nI v; rw [gc_0_k M K v z zs z5 z8 (show 101 ≠ 107 ∧ 101 ≠ 108 by decide)]; exact hv0) (by omega) (by omega)) tw1631 tw1633 tp29 tw16 tw1634 (rv_X11 C) rfl ⟨by decide +kernel, by decide +kernel, rfl⟩ ⟨rfl, rfl⟩ (by rw [hR]; exact ⟨Nat.le_of_ble_eq_true rfl, Nat.le_of_ble_eq_true rfl⟩) (Nat.le_of_ble_eq_true rfl) (by omega) (fun X1 M1 K1 h_6 => ?_)
      obtain ⟨hX1, hM1, hK1⟩ := h_6
      subst X1 M1 K1
      refine g_aload_n C dX11_goCount_103 0 rfl ?_
      refine g_dup C dX11_goCount_104 rfl ?_
      refine gf_X11_count C tw1247 dX11_goCount_105 ?_
      refine g_iconst C dX11_goCount_108 (v := 1) (by decide) ?_
      refine g_iadd C dX11_goCount_109 ?_
      refine pf_X11_count C tw1247 dX11_goCount_110 ?_
      refine g_aload_n C dX11_goCount_113 0 rfl ?_
      refine g_iconst C dX11_goCount_114 (v := 0) (by decide) ?_
      refine pf_X11_stayed C tw1251 dX11_goCount_115 ?_
      exact g_sub [0] rfl (g_toM (by (try unfold gc_1); (try unfold gc_a); (try unfold gc_b); (try unfold gc_g); (all_goals first | rw [if_pos c_12] | rw [if_neg c_12] | skip); (all_goals first | rw [if_pos c_64] | rw [if_neg c_64] | skip); (all_goals first | rw [if_pos c_88] | rw [if_neg c_88] | skip); all_goals first | rfl) (by (try unfold gc_1); (try unfold gc_a); (try unfold gc_b); (try unfold gc_g); (all_goals first | rw [if_pos c_12] | rw [if_neg c_12] | skip); (all_goals first | rw [if_pos c_64] | rw [if_neg c_64] | skip); (all_goals first | rw [if_pos c_88] | rw [if_neg c_88] | skip); all_goals first | with_reducible rfl | (simp only [kLs_1, kLs_0, kLs_app]; done)) (by (try unfold gc_1); (try unfold gc_a); (try unfold gc_b); (try unfold gc_g); (all_goals first | rw [if_pos c_12] | rw [if_neg c_12] | skip); (all_goals first | rw [if_pos c_64] | rw [if_neg c_64] | skip); (all_goals first | rw [if_pos c_88] | rw [if_neg c_88] | skip); all_goals first | omega | (simp only [kLs_1, kLs_0, kLs_app]; omega)) (by (try unfold gc_1); (try unfold gc_a); (try unfold gc_b); (try unfold gc_g); (all_goals first | rw [if_pos c_12] | rw [if_neg c_12] | skip); (all_goals first | rw [if_pos c_64] | rw [if_neg c_64] | skip); (all_goals first | rw [if_pos c_88] | rw [if_neg c_88] | skip); all_goals first | omega | (simp only [kLs_1, kLs_0, kLs_app]; omega)) j_118)
  · try simp only [sa_ap, si_ap, reduceIte, Nat.reduceEqDiff, up_us, lg_cmp_lt, lg_cmp_gt, lg_cmp_le, lg_cmp_ge] at c_12
    refine g_aload_n C dX11_goCount_15 0 rfl ?_
    refine g_dup C dX11_goCount_16 rfl ?_
    refine gf_X11_holds C tw1250 dX11_goCount_17 ?_
    refine g_iconst C dX11_goCount_20 (v := 1) (by decide) ?_
    refine g_iadd C dX11_goCount_21 ?_
    refine pf_X11_holds C tw1250 dX11_goCount_22 ?_
    refine g_aload_n C dX11_goCount_25 0 rfl ?_
    refine g_dup C dX11_goCount_26 rfl ?_
    refine gf_X11_stayed C tw1251 dX11_goCount_27 ?_
    refine g_iconst C dX11_goCount_30 (v := 1) (by decide) ?_
    refine g_iadd C dX11_goCount_31 ?_
    refine pf_X11_stayed C tw1251 dX11_goCount_32 ?_
    refine g_M (M' := gc_h (gc_0 M K v z zs z5 z8)) rfl ?_
    refine g_aload_n C dX11_goCount_35 0 rfl ?_
    refine gf_X11_firstCause C tw1254 dX11_goCount_36 ?_
    refine g_if_ne C dX11_goCount_39 (tgt := 58) (by decide) (fun c_39 => ?_) (fun c_39 => ?_)
    · try simp only [sa_ap, si_ap, reduceIte, Nat.reduceEqDiff, up_us, lg_cmp_lt, lg_cmp_gt, lg_cmp_le, lg_cmp_ge] at c_39
      refine g_M (M' := gc_f (gc_h (gc_0 M K v z zs z5 z8))) (by unfold gc_f; split <;> first | contradiction | rfl) ?_
      refine g_aload_n C dX11_goCount_58 0 rfl ?_
      refine gf_X11_state C tw1245 dX11_goCount_59 ?_
      refine g_bipush C dX11_goCount_62 (v := 99) (by decide) ?_
      refine g_icmp_ne C dX11_goCount_64 (tgt := 118) (by decide) (fun c_64 => ?_) (fun c_64 => ?_)
      · try simp only [sa_ap, si_ap, reduceIte, Nat.reduceEqDiff, up_us, lg_cmp_lt, lg_cmp_gt, lg_cmp_le, lg_cmp_ge] at c_64
        exact g_sub [0] rfl (g_toM (by (try unfold gc_1); (try unfold gc_a); (try unfold gc_b); (try unfold gc_g); (all_goals first | rw [if_pos c_12] | rw [if_neg c_12] | skip); (all_goals first | rw [if_pos c_64] | rw [if_neg c_64] | skip); (all_goals first | rw [if_pos c_88] | rw [if_neg c_88] | skip); all_goals first | rfl) (by (try unfold gc_1); (try unfold gc_a); (try unfold gc_b); (try unfold gc_g); (all_goals first | rw [if_pos c_12] | rw [if_neg c_12] | skip); (all_goals first | rw [if_pos c_64] | rw [if_neg c_64] | skip); (all_goals first | rw [if_pos c_88] | rw [if_neg c_88] | skip); all_goals first | with_reducible rfl | (simp only [kLs_1, kLs_0, kLs_app]; done)) (by (try unfold gc_1); (try unfold gc_a); (try unfold gc_b); (try unfold gc_g); (all_goals first | rw [if_pos c_12] | rw [if_neg c_12] | skip); (all_goals first | rw [if_pos c_64] | rw [if_neg c_64] | skip); (all_goals first | rw [if_pos c_88] | rw [if_neg c_88] | skip); all_goals first | omega | (simp only [kLs_1, kLs_0, kLs_app]; omega)) (by (try unfold gc_1); (try unfold gc_a); (try unfold gc_b); (try unfold gc_g); (all_goals first | rw [if_pos c_12] | rw [if_neg c_12] | skip); (all_goals first | rw [if_pos c_64] | rw [if_neg c_64] | skip); (all_goals first | rw [if_pos c_88] | rw [if_neg c_88] | skip); all_goals first | omega | (simp only [kLs_1, kLs_0, kLs_app]; omega)) j_118)
      · try simp only [sa_ap, si_ap, reduceIte, Nat.reduceEqDiff, up_us, lg_cmp_lt, lg_cmp_gt, lg_cmp_le, lg_cmp_ge] at c_64
        refine g_aload_n C dX11_goCount_67 0 rfl ?_
        refine g_bipush C dX11_goCount_68 (v := 104) (by decide) ?_
        refine pf_X11_state C ⟨by decide, by decide⟩ tw1245 dX11_goCount_70 ?_
        refine g_aload_n C dX11_goCount_73 0 rfl ?_
        refine g_bipush C dX11_goCount_74 (v := 72) (by decide) ?_
        have hk1 := kq (show kLs K 1 v (gc_1 M K v z zs z5 z8).2 = kLg K 1 v 72 from (by (try unfold gc_1); (try unfold gc_a); (try unfold gc_b); (try unfold gc_g); (all_goals first | rw [if_pos c_12] | rw [if_neg c_12] | skip); (all_goals first | rw [if_pos c_64] | rw [if_neg c_64] | skip); (all_goals first | rw [if_pos c_88] | rw [if_neg c_88] | skip); all_goals first | with_reducible rfl | (simp only [kLs_1, kLs_0, kLs_app]; done)))
        have gl72 := kLg_le1 (K) v 72
        refine g_callVvW C dX11_goCount_76 (c_X11_note _ _ _ _ _ _ _ _ _ v 72 (by omega) (by decide) (by show (gc_f (gc_h (gc_0 M K v z zs z5 z8))) 101 0 = nI v; unfold gc_f gc_h; split <;> exact hv0) (by omega) (by omega)) tw1631 tw1633 tp29 tw16 tw1634 (rv_X11 C) rfl ⟨by decide +kernel, by decide +kernel, rfl⟩ ⟨rfl, rfl⟩ (by rw [hR]; exact ⟨Nat.le_of_ble_eq_true rfl, Nat.le_of_ble_eq_true rfl⟩) (Nat.le_of_ble_eq_true rfl) (by omega) (fun X1 M1 K1 h_7 => ?_)
        obtain ⟨hX1, hM1, hK1⟩ := h_7
        subst X1 M1 K1
        refine g_goto C dX11_goCount_79 (tgt := 118) (by decide) ?_
        exact g_sub [0] rfl (g_toM (by (try unfold gc_1); (try unfold gc_a); (try unfold gc_b); (try unfold gc_g); (all_goals first | rw [if_pos c_12] | rw [if_neg c_12] | skip); (all_goals first | rw [if_pos c_64] | rw [if_neg c_64] | skip); (all_goals first | rw [if_pos c_88] | rw [if_neg c_88] | skip); all_goals first | rfl) (by (try unfold gc_1); (try unfold gc_a); (try unfold gc_b); (try unfold gc_g); (all_goals first | rw [if_pos c_12] | rw [if_neg c_12] | skip); (all_goals first | rw [if_pos c_64] | rw [if_neg c_64] | skip); (all_goals first | rw [if_pos c_88] | rw [if_neg c_88] | skip); all_goals first | with_reducible rfl | (simp only [kLs_1, kLs_0, kLs_app]; done)) (by (try unfold gc_1); (try unfold gc_a); (try unfold gc_b); (try unfold gc_g); (all_goals first | rw [if_pos c_12] | rw [if_neg c_12] | skip); (all_goals first | rw [if_pos c_64] | rw [if_neg c_64] | skip); (all_goals first | rw [if_pos c_88] | rw [if_neg c_88] | skip); all_goals first | omega | (simp only [kLs_1, kLs_0, kLs_app]; omega)) (by (try unfold gc_1); (try unfold gc_a); (try unfold gc_b); (try unfold gc_g); (all_goals first | rw [if_pos c_12] | rw [if_neg c_12] | skip); (all_goals first | rw [if_pos c_64] | rw [if_neg c_64] | skip); (all_goals first | rw [if_pos c_88] | rw [if_neg c_88] | skip); all_goals first | omega | (simp only [kLs_1, kLs_0, kLs_app]; omega)) j_118)
    · try simp only [sa_ap, si_ap, reduceIte, Nat.reduceEqDiff, up_us, lg_cmp_lt, lg_cmp_gt, lg_cmp_le, lg_cmp_ge] at c_39
      refine g_aload_n C dX11_goCount_42 0 rfl ?_
      refine g_aload_n C dX11_goCount_43 0 rfl ?_
      refine gf_X11_cause C tw1252 dX11_goCount_44 ?_
      refine g_topi (y := gw_c M K v z zs z5 z8) (by rfl) ?_
      refine pf_X11_firstCause C (gw_c_ch M K v z zs z5 z8 hk63) tw1254 dX11_goCount_47 ?_
      refine g_aload_n C dX11_goCount_50 0 rfl ?_
      refine g_aload_n C dX11_goCount_51 0 rfl ?_
      refine gf_X11_causeRule C tw1253 dX11_goCount_52 ?_
      refine pf_X11_firstRule C tw1255 dX11_goCount_55 ?_
      refine g_M (M' := gc_f (gc_h (gc_0 M K v z zs z5 z8))) (by unfold gc_f; split <;> first | contradiction | rfl) ?_
      refine g_aload_n C dX11_goCount_58 0 rfl ?_
      refine gf_X11_state C tw1245 dX11_goCount_59 ?_
      refine g_bipush C dX11_goCount_62 (v := 99) (by decide) ?_
      refine g_icmp_ne C dX11_goCount_64 (tgt := 118) (by decide) (fun c_64 => ?_) (fun c_64 => ?_)
      · try simp only [sa_ap, si_ap, reduceIte, Nat.reduceEqDiff, up_us, lg_cmp_lt, lg_cmp_gt, lg_cmp_le, lg_cmp_ge] at c_64
        exact g_sub [0] rfl (g_toM (by (try unfold gc_1); (try unfold gc_a); (try unfold gc_b); (try unfold gc_g); (all_goals first | rw [if_pos c_12] | rw [if_neg c_12] | skip); (all_goals first | rw [if_pos c_64] | rw [if_neg c_64] | skip); (all_goals first | rw [if_pos c_88] | rw [if_neg c_88] | skip); all_goals first | rfl) (by (try unfold gc_1); (try unfold gc_a); (try unfold gc_b); (try unfold gc_g); (all_goals first | rw [if_pos c_12] | rw [if_neg c_12] | skip); (all_goals first | rw [if_pos c_64] | rw [if_neg c_64] | skip); (all_goals first | rw [if_pos c_88] | rw [if_neg c_88] | skip); all_goals first | with_reducible rfl | (simp only [kLs_1, kLs_0, kLs_app]; done)) (by (try unfold gc_1); (try unfold gc_a); (try unfold gc_b); (try unfold gc_g); (all_goals first | rw [if_pos c_12] | rw [if_neg c_12] | skip); (all_goals first | rw [if_pos c_64] | rw [if_neg c_64] | skip); (all_goals first | rw [if_pos c_88] | rw [if_neg c_88] | skip); all_goals first | omega | (simp only [kLs_1, kLs_0, kLs_app]; omega)) (by (try unfold gc_1); (try unfold gc_a); (try unfold gc_b); (try unfold gc_g); (all_goals first | rw [if_pos c_12] | rw [if_neg c_12] | skip); (all_goals first | rw [if_pos c_64] | rw [if_neg c_64] | skip); (all_goals first | rw [if_pos c_88] | rw [if_neg c_88] | skip); all_goals first | omega | (simp only [kLs_1, kLs_0, kLs_app]; omega)) j_118)
      · try simp only [sa_ap, si_ap, reduceIte, Nat.reduceEqDiff, up_us, lg_cmp_lt, lg_cmp_gt, lg_cmp_le, lg_cmp_ge] at c_64
        refine g_aload_n C dX11_goCount_67 0 rfl ?_
        refine g_bipush C dX11_goCount_68 (v := 104) (by decide) ?_
        refine pf_X11_state C ⟨by decide, by decide⟩ tw1245 dX11_goCount_70 ?_
        refine g_aload_n C dX11_goCount_73 0 rfl ?_
        refine g_bipush C dX11_goCount_74 (v := 72) (by decide) ?_
        have hk1 := kq (show kLs K 1 v (gc_1 M K v z zs z5 z8).2 = kLg K 1 v 72 from (by (try unfold gc_1); (try unfold gc_a); (try unfold gc_b); (try unfold gc_g); (all_goals first | rw [if_pos c_12] | rw [if_neg c_12] | skip); (all_goals first | rw [if_pos c_64] | rw [if_neg c_64] | skip); (all_goals first | rw [if_pos c_88] | rw [if_neg c_88] | skip); all_goals first | with_reducible rfl | (simp only [kLs_1, kLs_0, kLs_app]; done)))
        have gl72 := kLg_le1 (K) v 72
        refine g_callVvW C dX11_goCount_76 (c_X11_note _ _ _ _ _ _ _ _ _ v 72 (by omega) (by decide) (by show (gc_f (gc_h (gc_0 M K v z zs z5 z8))) 101 0 = nI v; unfold gc_f gc_h; split <;> exact hv0) (by omega) (by omega)) tw1631 tw1633 tp29 tw16 tw1634 (rv_X11 C) rfl ⟨by decide +kernel, by decide +kernel, rfl⟩ ⟨rfl, rfl⟩ (by rw [hR]; exact ⟨Nat.le_of_ble_eq_true rfl, Nat.le_of_ble_eq_true rfl⟩) (Nat.le_of_ble_eq_true rfl) (by omega) (fun X1 M1 K1 h_8 => ?_)
        obtain ⟨hX1, hM1, hK1⟩ := h_8
        subst X1 M1 K1
        refine g_goto C dX11_goCount_79 (tgt := 118) (by decide) ?_
        exact g_sub [0] rfl (g_toM (by (try unfold gc_1); (try unfold gc_a); (try unfold gc_b); (try unfold gc_g); (all_goals first | rw [if_pos c_12] | rw [if_neg c_12] | skip); (all_goals first | rw [if_pos c_64] | rw [if_neg c_64] | skip); (all_goals first | rw [if_pos c_88] | rw [if_neg c_88] | skip); all_goals first | rfl) (by (try unfold gc_1); (try unfold gc_a); (try unfold gc_b); (try unfold gc_g); (all_goals first | rw [if_pos c_12] | rw [if_neg c_12] | skip); (all_goals first | rw [if_pos c_64] | rw [if_neg c_64] | skip); (all_goals first | rw [if_pos c_88] | rw [if_neg c_88] | skip); all_goals first | with_reducible rfl | (simp only [kLs_1, kLs_0, kLs_app]; done)) (by (try unfold gc_1); (try unfold gc_a); (try unfold gc_b); (try unfold gc_g); (all_goals first | rw [if_pos c_12] | rw [if_neg c_12] | skip); (all_goals first | rw [if_pos c_64] | rw [if_neg c_64] | skip); (all_goals first | rw [if_pos c_88] | rw [if_neg c_88] | skip); all_goals first | omega | (simp only [kLs_1, kLs_0, kLs_app]; omega)) (by (try unfold gc_1); (try unfold gc_a); (try unfold gc_b); (try unfold gc_g); (all_goals first | rw [if_pos c_12] | rw [if_neg c_12] | skip); (all_goals first | rw [if_pos c_64] | rw [if_neg c_64] | skip); (all_goals first | rw [if_pos c_88] | rw [if_neg c_88] | skip); all_goals first | omega | (simp only [kLs_1, kLs_0, kLs_app]; omega)) j_118)

set_option maxHeartbeats 2000000 in
set_option maxRecDepth 100000 in
/-- goFlight.goFlight -/
theorem c_X11_goFlight (l : Launch) (D : va_G) (cy : Nat → ClassId) (A : Nat → Prop) (ad sad : Nat → Nat) (X M : XF) (K : KF) (v : Nat) (hv : v < 999999) (hv0 : M 101 0 = nI v) (h16 : 16 ≤ K.2.1 1) (hcap : (kLs K 1 v (gf_A M).2).2.1 1 < 2 ^ 26) : Met l yX11_goFlight (wsA yX11_goFlight cX11_goFlight 2 none) ({ frames := 7, cells := (kLs K 1 v (gf_A M).2).2.1 5 - K.2.1 5, slots := (kLs K 1 v (gf_A M).2).2.1 7 - K.2.1 7, locals := 211 }) (PcW D cy A ad sad X M K [.ref (ad 42)]) (QvW D cy A ad (fun X1 M1 K1 => X1 = X ∧ M1 = (gf_A M).1 ∧ K1 = kLs K 1 v (gf_A M).2)) ((kLs K 1 v (gf_A M).2).2.1 5 - K.2.1 5) ((kLs K 1 v (gf_A M).2).2.1 7 - K.2.1 7) A := by
  refine met_ofW [(0, .ref (ad 42))] (by decide +kernel) (Nat.le_of_ble_eq_true rfl) rfl ?_
  intro G C hl hR hL hD hcy hA had hsa hr hQ
  subst hD hcy hA had hsa hl
  have hrc : (gR G).cells = (kLs K 1 v (gf_A M).2).2.1 5 - K.2.1 5 := by rw [hR]
  have hrs : (gR G).slots = (kLs K 1 v (gf_A M).2).2.1 7 - K.2.1 7 := by rw [hR]
  refine g_aload_n C dX11_goFlight_0 0 rfl ?_
  refine g_dup C dX11_goFlight_1 rfl ?_
  refine gf_X11_flown C tw1256 dX11_goFlight_2 ?_
  refine g_iconst C dX11_goFlight_5 (v := 1) (by decide) ?_
  refine g_iadd C dX11_goFlight_6 ?_
  refine pf_X11_flown C tw1256 dX11_goFlight_7 ?_
  refine g_aload_n C dX11_goFlight_10 0 rfl ?_
  refine g_aload_n C dX11_goFlight_11 0 rfl ?_
  refine gf_X11_flown C tw1256 dX11_goFlight_12 ?_
  refine pf_X11_count C tw1247 dX11_goFlight_15 ?_
  refine g_M (M' := gf_0 M) (by simp [gf_0, sa_ap, si_ap]) ?_
  refine g_aload_n C dX11_goFlight_18 0 rfl ?_
  refine gf_X11_radar C tw1281 dX11_goFlight_19 ?_
  refine g_iconst C dX11_goFlight_22 (v := 0) (by decide) ?_
  refine g_topi (y := nI 0) rfl ?_
  refine al_62 C (by omega) dX11_goFlight_23 ?_
  refine g_abs C dX11_goFlight_24 tw1679 (Nat.le_of_ble_eq_true rfl) (by rw [hR]; exact ⟨Nat.le_of_ble_eq_true rfl, Nat.le_of_ble_eq_true rfl, Nat.zero_le _, Nat.zero_le _⟩) ?_
  refine g_topi (y := absI _) rfl ?_
  refine g_bipush C dX11_goFlight_27 (v := 100) (by decide) ?_
  refine g_icmp_le C dX11_goFlight_29 (tgt := 50) (by decide) (fun c_29 => ?_) (fun c_29 => ?_)
  · try simp only [sa_ap, si_ap, reduceIte, Nat.reduceEqDiff, up_us, lg_cmp_lt, lg_cmp_gt, lg_cmp_le, lg_cmp_ge] at c_29
    simp (discharger := decide) only [gf_0_k] at c_29
    have c_o : gf_o M = 0 := if_pos c_29
    refine g_iconst C dX11_goFlight_50 (v := 0) (by decide) ?_
    refine g_istore_n C dX11_goFlight_51 (L' := [(1, .int 0), (0, .ref (gad G 42))]) rfl (by rw [hL]; decide) ?_
    refine g_aload_n C dX11_goFlight_52 1 rfl ?_
    refine g_aload_n C dX11_goFlight_53 1 rfl ?_
    refine gf_X11_radar C tw1281 dX11_goFlight_54 ?_
    refine g_iconst C dX11_goFlight_57 (v := 0) (by decide) ?_
    refine g_topi (y := nI 0) rfl ?_
    refine al_62 C (by omega) dX11_goFlight_58 ?_
    refine g_aload_n C dX11_goFlight_59 1 rfl ?_
    refine gf_X11_radar C tw1281 dX11_goFlight_60 ?_
    refine g_iconst C dX11_goFlight_63 (v := 1) (by decide) ?_
    refine g_topi (y := nI 1) rfl ?_
    refine al_62 C (by omega) dX11_goFlight_64 ?_
    refine g_isub C dX11_goFlight_65 ?_
    refine g_abs C dX11_goFlight_66 tw1679 (Nat.le_of_ble_eq_true rfl) (by rw [hR]; exact ⟨Nat.le_of_ble_eq_true rfl, Nat.le_of_ble_eq_true rfl, Nat.zero_le _, Nat.zero_le _⟩) ?_
    refine g_topi (y := absI _) rfl ?_
    refine g_bipush C dX11_goFlight_69 (v := 20) (by decide) ?_
    refine g_icmp_le C dX11_goFlight_71 (tgt := 83) (by decide) (fun c_71 => ?_) (fun c_71 => ?_)
    · try simp only [sa_ap, si_ap, reduceIte, Nat.reduceEqDiff, up_us, lg_cmp_lt, lg_cmp_gt, lg_cmp_le, lg_cmp_ge] at c_71
      simp (discharger := decide) only [gf_0_k] at c_71
      refine g_iconst C dX11_goFlight_83 (v := 0) (by decide) ?_
      refine pf_X11_unlike C tw1257 dX11_goFlight_84 ?_
      refine g_M (M' := gf_1 M) (by unfold gf_1 gf_u; (repeat' split) <;> first | contradiction | rfl) ?_
      refine g_iload_n C dX11_goFlight_87 0 rfl ?_
      refine g_if_ne C dX11_goFlight_88 (tgt := 99) (by decide) (fun c_88 => absurd c_88 (by decide)) (fun c_88 => ?_)
      refine g_aload_n C dX11_goFlight_91 1 rfl ?_
      refine gf_X11_unlike C tw1257 dX11_goFlight_92 ?_
      refine g_topi (y := gf_u M) (by rfl) ?_
      refine g_iconst C dX11_goFlight_95 (v := 3) (by decide) ?_
      refine g_icmp_ne C dX11_goFlight_96 (tgt := 134) (by decide) (fun c_96 => ?_) (fun c_96 => ?_)
      · try simp only [sa_ap, si_ap, reduceIte, Nat.reduceEqDiff, up_us, lg_cmp_lt, lg_cmp_gt, lg_cmp_le, lg_cmp_ge] at c_96
        refine g_aload_n C dX11_goFlight_134 1 rfl ?_
        refine gf_X11_flown C tw1256 dX11_goFlight_135 ?_
        refine g_topi (y := M 111 0 + 1) (by rfl) ?_
        refine g_bipush C dX11_goFlight_138 (v := 60) (by decide) ?_
        refine g_icmp_ne C dX11_goFlight_140 (tgt := 155) (by decide) (fun c_140 => ?_) (fun c_140 => ?_)
        · try simp only [sa_ap, si_ap, reduceIte, Nat.reduceEqDiff, up_us, lg_cmp_lt, lg_cmp_gt, lg_cmp_le, lg_cmp_ge] at c_140
          refine g_vretW C hr hQ (by omega) (by omega) dX11_goFlight_155 ?_
          exact ⟨rfl, (by (try unfold gf_A); (try unfold gf_x); (all_goals first | rw [if_pos c_o] | rw [if_neg c_o] | skip); (all_goals first | rw [if_pos c_96] | rw [if_neg c_96] | skip); (all_goals first | rw [if_pos c_140] | rw [if_neg c_140] | skip); all_goals first | rfl), (by (try unfold gf_A); (try unfold gf_x); (all_goals first | rw [if_pos c_o] | rw [if_neg c_o] | skip); (all_goals first | rw [if_pos c_96] | rw [if_neg c_96] | skip); (all_goals first | rw [if_pos c_140] | rw [if_neg c_140] | skip); all_goals first | with_reducible rfl | (simp only [kLs_1, kLs_0, kLs_app]; done))⟩
        · try simp only [sa_ap, si_ap, reduceIte, Nat.reduceEqDiff, up_us, lg_cmp_lt, lg_cmp_gt, lg_cmp_le, lg_cmp_ge] at c_140
          refine g_aload_n C dX11_goFlight_143 1 rfl ?_
          refine g_bipush C dX11_goFlight_144 (v := 111) (by decide) ?_
          refine pf_X11_state C ⟨by decide, by decide⟩ tw1245 dX11_goFlight_146 ?_
          refine g_aload_n C dX11_goFlight_149 1 rfl ?_
          refine g_bipush C dX11_goFlight_150 (v := 79) (by decide) ?_
          have hk1 := kq (show kLs K 1 v (gf_A M).2 = kLg K 1 v 79 from (by (try unfold gf_A); (try unfold gf_x); (all_goals first | rw [if_pos c_o] | rw [if_neg c_o] | skip); (all_goals first | rw [if_pos c_96] | rw [if_neg c_96] | skip); (all_goals first | rw [if_pos c_140] | rw [if_neg c_140] | skip); all_goals first | with_reducible rfl | (simp only [kLs_1, kLs_0, kLs_app]; done)))
          have gl79 := kLg_le1 (K) v 79
          refine g_callVvW C dX11_goFlight_152 (c_X11_note _ _ _ _ _ _ _ _ _ v 79 (by omega) (by decide) (by show (gf_1 M) 101 0 = nI v; rw [gf_1_k _ (by decide)]; exact hv0) (by omega) (by omega)) tw1631 tw1633 tp29 tw16 tw1634 (rv_X11 C) rfl ⟨by decide +kernel, by decide +kernel, rfl⟩ ⟨rfl, rfl⟩ (by rw [hR]; exact ⟨Nat.le_of_ble_eq_true rfl, Nat.le_of_ble_eq_true rfl⟩) (Nat.le_of_ble_eq_true rfl) (by omega) (fun X1 M1 K1 h_1 => ?_)
          obtain ⟨hX1, hM1, hK1⟩ := h_1
          subst X1 M1 K1
          refine g_vretW C hr hQ (by omega) (by omega) dX11_goFlight_155 ?_
          exact ⟨rfl, (by (try unfold gf_A); (try unfold gf_x); (all_goals first | rw [if_pos c_o] | rw [if_neg c_o] | skip); (all_goals first | rw [if_pos c_96] | rw [if_neg c_96] | skip); (all_goals first | rw [if_pos c_140] | rw [if_neg c_140] | skip); all_goals first | rfl), (by (try unfold gf_A); (try unfold gf_x); (all_goals first | rw [if_pos c_o] | rw [if_neg c_o] | skip); (all_goals first | rw [if_pos c_96] | rw [if_neg c_96] | skip); (all_goals first | rw [if_pos c_140] | rw [if_neg c_140] | skip); all_goals first | with_reducible rfl | (simp only [kLs_1, kLs_0, kLs_app]; done))⟩
      · try simp only [sa_ap, si_ap, reduceIte, Nat.reduceEqDiff, up_us, lg_cmp_lt, lg_cmp_gt, lg_cmp_le, lg_cmp_ge] at c_96
        refine g_aload_n C dX11_goFlight_99 1 rfl ?_
        refine g_bipush C dX11_goFlight_100 (v := 120) (by decide) ?_
        refine pf_X11_state C ⟨by decide, by decide⟩ tw1245 dX11_goFlight_102 ?_
        refine g_aload_n C dX11_goFlight_105 1 rfl ?_
        refine g_iload_n C dX11_goFlight_106 0 rfl ?_
        refine g_if_eq C dX11_goFlight_107 (tgt := 115) (by decide) (fun c_107 => ?_) (fun c_107 => absurd (by decide) c_107)
        refine g_bipush C dX11_goFlight_115 (v := 114) (by decide) ?_
        refine pf_X11_cause C ⟨by decide, by decide⟩ tw1252 dX11_goFlight_117 ?_
        refine g_aload_n C dX11_goFlight_120 1 rfl ?_
        refine g_iconst C dX11_goFlight_121 (v := (-1)) (by decide) ?_
        refine pf_X11_causeRule C tw1253 dX11_goFlight_122 ?_
        refine g_aload_n C dX11_goFlight_125 1 rfl ?_
        refine g_bipush C dX11_goFlight_126 (v := 88) (by decide) ?_
        have hk1 := kq (show kLs K 1 v (gf_A M).2 = kLg K 1 v 88 from (by (try unfold gf_A); (try unfold gf_x); (all_goals first | rw [if_pos c_o] | rw [if_neg c_o] | skip); (all_goals first | rw [if_pos c_96] | rw [if_neg c_96] | skip); (all_goals first | rw [if_pos c_140] | rw [if_neg c_140] | skip); all_goals first | with_reducible rfl | (simp only [kLs_1, kLs_0, kLs_app]; done)))
        have gl88 := kLg_le1 (K) v 88
        refine g_callVvW C dX11_goFlight_128 (c_X11_note _ _ _ _ _ _ _ _ _ v 88 (by omega) (by decide) (by show (gf_1 M) 101 0 = nI v; rw [gf_1_k _ (by decide)]; exact hv0) (by omega) (by omega)) tw1631 tw1633 tp29 tw16 tw1634 (rv_X11 C) rfl ⟨by decide +kernel, by decide +kernel, rfl⟩ ⟨rfl, rfl⟩ (by rw [hR]; exact ⟨Nat.le_of_ble_eq_true rfl, Nat.le_of_ble_eq_true rfl⟩) (Nat.le_of_ble_eq_true rfl) (by omega) (fun X1 M1 K1 h_2 => ?_)
        obtain ⟨hX1, hM1, hK1⟩ := h_2
        subst X1 M1 K1
        refine g_goto C dX11_goFlight_131 (tgt := 155) (by decide) ?_
        refine g_vretW C hr hQ (by omega) (by omega) dX11_goFlight_155 ?_
        exact ⟨rfl, (by (try unfold gf_A); (try unfold gf_x); (all_goals first | rw [if_pos c_o] | rw [if_neg c_o] | skip); (all_goals first | rw [if_pos c_96] | rw [if_neg c_96] | skip); (all_goals first | rw [if_pos c_140] | rw [if_neg c_140] | skip); all_goals first | rfl), (by (try unfold gf_A); (try unfold gf_x); (all_goals first | rw [if_pos c_o] | rw [if_neg c_o] | skip); (all_goals first | rw [if_pos c_96] | rw [if_neg c_96] | skip); (all_goals first | rw [if_pos c_140] | rw [if_neg c_140] | skip); all_goals first | with_reducible rfl | (simp only [kLs_1, kLs_0, kLs_app]; done))⟩
    · try simp only [sa_ap, si_ap, reduceIte, Nat.reduceEqDiff, up_us, lg_cmp_lt, lg_cmp_gt, lg_cmp_le, lg_cmp_ge] at c_71
      simp (discharger := decide) only [gf_0_k] at c_71
      refine g_aload_n C dX11_goFlight_74 1 rfl ?_
      refine gf_X11_unlike C tw1257 dX11_goFlight_75 ?_
      refine g_iconst C dX11_goFlight_78 (v := 1) (by decide) ?_
      refine g_iadd C dX11_goFlight_79 ?_
      refine g_goto C dX11_goFlight_80 (tgt := 84) (by decide) ?_
      refine pf_X11_unlike C tw1257 dX11_goFlight_84 ?_
      refine g_M (M' := gf_1 M) (by unfold gf_1 gf_u; (repeat' split) <;> first | contradiction | rfl) ?_
      refine g_iload_n C dX11_goFlight_87 0 rfl ?_
      refine g_if_ne C dX11_goFlight_88 (tgt := 99) (by decide) (fun c_88 => absurd c_88 (by decide)) (fun c_88 => ?_)
      refine g_aload_n C dX11_goFlight_91 1 rfl ?_
      refine gf_X11_unlike C tw1257 dX11_goFlight_92 ?_
      refine g_topi (y := gf_u M) (by rfl) ?_
      refine g_iconst C dX11_goFlight_95 (v := 3) (by decide) ?_
      refine g_icmp_ne C dX11_goFlight_96 (tgt := 134) (by decide) (fun c_96 => ?_) (fun c_96 => ?_)
      · try simp only [sa_ap, si_ap, reduceIte, Nat.reduceEqDiff, up_us, lg_cmp_lt, lg_cmp_gt, lg_cmp_le, lg_cmp_ge] at c_96
        refine g_aload_n C dX11_goFlight_134 1 rfl ?_
        refine gf_X11_flown C tw1256 dX11_goFlight_135 ?_
        refine g_topi (y := M 111 0 + 1) (by rfl) ?_
        refine g_bipush C dX11_goFlight_138 (v := 60) (by decide) ?_
        refine g_icmp_ne C dX11_goFlight_140 (tgt := 155) (by decide) (fun c_140 => ?_) (fun c_140 => ?_)
        · try simp only [sa_ap, si_ap, reduceIte, Nat.reduceEqDiff, up_us, lg_cmp_lt, lg_cmp_gt, lg_cmp_le, lg_cmp_ge] at c_140
          refine g_vretW C hr hQ (by omega) (by omega) dX11_goFlight_155 ?_
          exact ⟨rfl, (by (try unfold gf_A); (try unfold gf_x); (all_goals first | rw [if_pos c_o] | rw [if_neg c_o] | skip); (all_goals first | rw [if_pos c_96] | rw [if_neg c_96] | skip); (all_goals first | rw [if_pos c_140] | rw [if_neg c_140] | skip); all_goals first | rfl), (by (try unfold gf_A); (try unfold gf_x); (all_goals first | rw [if_pos c_o] | rw [if_neg c_o] | skip); (all_goals first | rw [if_pos c_96] | rw [if_neg c_96] | skip); (all_goals first | rw [if_pos c_140] | rw [if_neg c_140] | skip); all_goals first | with_reducible rfl | (simp only [kLs_1, kLs_0, kLs_app]; done))⟩
        · try simp only [sa_ap, si_ap, reduceIte, Nat.reduceEqDiff, up_us, lg_cmp_lt, lg_cmp_gt, lg_cmp_le, lg_cmp_ge] at c_140
          refine g_aload_n C dX11_goFlight_143 1 rfl ?_
          refine g_bipush C dX11_goFlight_144 (v := 111) (by decide) ?_
          refine pf_X11_state C ⟨by decide, by decide⟩ tw1245 dX11_goFlight_146 ?_
          refine g_aload_n C dX11_goFlight_149 1 rfl ?_
          refine g_bipush C dX11_goFlight_150 (v := 79) (by decide) ?_
          have hk1 := kq (show kLs K 1 v (gf_A M).2 = kLg K 1 v 79 from (by (try unfold gf_A); (try unfold gf_x); (all_goals first | rw [if_pos c_o] | rw [if_neg c_o] | skip); (all_goals first | rw [if_pos c_96] | rw [if_neg c_96] | skip); (all_goals first | rw [if_pos c_140] | rw [if_neg c_140] | skip); all_goals first | with_reducible rfl | (simp only [kLs_1, kLs_0, kLs_app]; done)))
          have gl79 := kLg_le1 (K) v 79
          refine g_callVvW C dX11_goFlight_152 (c_X11_note _ _ _ _ _ _ _ _ _ v 79 (by omega) (by decide) (by show (gf_1 M) 101 0 = nI v; rw [gf_1_k _ (by decide)]; exact hv0) (by omega) (by omega)) tw1631 tw1633 tp29 tw16 tw1634 (rv_X11 C) rfl ⟨by decide +kernel, by decide +kernel, rfl⟩ ⟨rfl, rfl⟩ (by rw [hR]; exact ⟨Nat.le_of_ble_eq_true rfl, Nat.le_of_ble_eq_true rfl⟩) (Nat.le_of_ble_eq_true rfl) (by omega) (fun X1 M1 K1 h_3 => ?_)
          obtain ⟨hX1, hM1, hK1⟩ := h_3
          subst X1 M1 K1
          refine g_vretW C hr hQ (by omega) (by omega) dX11_goFlight_155 ?_
          exact ⟨rfl, (by (try unfold gf_A); (try unfold gf_x); (all_goals first | rw [if_pos c_o] | rw [if_neg c_o] | skip); (all_goals first | rw [if_pos c_96] | rw [if_neg c_96] | skip); (all_goals first | rw [if_pos c_140] | rw [if_neg c_140] | skip); all_goals first | rfl), (by (try unfold gf_A); (try unfold gf_x); (all_goals first | rw [if_pos c_o] | rw [if_neg c_o] | skip); (all_goals first | rw [if_pos c_96] | rw [if_neg c_96] | skip); (all_goals first | rw [if_pos c_140] | rw [if_neg c_140] | skip); all_goals first | with_reducible rfl | (simp only [kLs_1, kLs_0, kLs_app]; done))⟩
      · try simp only [sa_ap, si_ap, reduceIte, Nat.reduceEqDiff, up_us, lg_cmp_lt, lg_cmp_gt, lg_cmp_le, lg_cmp_ge] at c_96
        refine g_aload_n C dX11_goFlight_99 1 rfl ?_
        refine g_bipush C dX11_goFlight_100 (v := 120) (by decide) ?_
        refine pf_X11_state C ⟨by decide, by decide⟩ tw1245 dX11_goFlight_102 ?_
        refine g_aload_n C dX11_goFlight_105 1 rfl ?_
        refine g_iload_n C dX11_goFlight_106 0 rfl ?_
        refine g_if_eq C dX11_goFlight_107 (tgt := 115) (by decide) (fun c_107 => ?_) (fun c_107 => absurd (by decide) c_107)
        refine g_bipush C dX11_goFlight_115 (v := 114) (by decide) ?_
        refine pf_X11_cause C ⟨by decide, by decide⟩ tw1252 dX11_goFlight_117 ?_
        refine g_aload_n C dX11_goFlight_120 1 rfl ?_
        refine g_iconst C dX11_goFlight_121 (v := (-1)) (by decide) ?_
        refine pf_X11_causeRule C tw1253 dX11_goFlight_122 ?_
        refine g_aload_n C dX11_goFlight_125 1 rfl ?_
        refine g_bipush C dX11_goFlight_126 (v := 88) (by decide) ?_
        have hk1 := kq (show kLs K 1 v (gf_A M).2 = kLg K 1 v 88 from (by (try unfold gf_A); (try unfold gf_x); (all_goals first | rw [if_pos c_o] | rw [if_neg c_o] | skip); (all_goals first | rw [if_pos c_96] | rw [if_neg c_96] | skip); (all_goals first | rw [if_pos c_140] | rw [if_neg c_140] | skip); all_goals first | with_reducible rfl | (simp only [kLs_1, kLs_0, kLs_app]; done)))
        have gl88 := kLg_le1 (K) v 88
        refine g_callVvW C dX11_goFlight_128 (c_X11_note _ _ _ _ _ _ _ _ _ v 88 (by omega) (by decide) (by show (gf_1 M) 101 0 = nI v; rw [gf_1_k _ (by decide)]; exact hv0) (by omega) (by omega)) tw1631 tw1633 tp29 tw16 tw1634 (rv_X11 C) rfl ⟨by decide +kernel, by decide +kernel, rfl⟩ ⟨rfl, rfl⟩ (by rw [hR]; exact ⟨Nat.le_of_ble_eq_true rfl, Nat.le_of_ble_eq_true rfl⟩) (Nat.le_of_ble_eq_true rfl) (by omega) (fun X1 M1 K1 h_4 => ?_)
        obtain ⟨hX1, hM1, hK1⟩ := h_4
        subst X1 M1 K1
        refine g_goto C dX11_goFlight_131 (tgt := 155) (by decide) ?_
        refine g_vretW C hr hQ (by omega) (by omega) dX11_goFlight_155 ?_
        exact ⟨rfl, (by (try unfold gf_A); (try unfold gf_x); (all_goals first | rw [if_pos c_o] | rw [if_neg c_o] | skip); (all_goals first | rw [if_pos c_96] | rw [if_neg c_96] | skip); (all_goals first | rw [if_pos c_140] | rw [if_neg c_140] | skip); all_goals first | rfl), (by (try unfold gf_A); (try unfold gf_x); (all_goals first | rw [if_pos c_o] | rw [if_neg c_o] | skip); (all_goals first | rw [if_pos c_96] | rw [if_neg c_96] | skip); (all_goals first | rw [if_pos c_140] | rw [if_neg c_140] | skip); all_goals first | with_reducible rfl | (simp only [kLs_1, kLs_0, kLs_app]; done))⟩
  · try simp only [sa_ap, si_ap, reduceIte, Nat.reduceEqDiff, up_us, lg_cmp_lt, lg_cmp_gt, lg_cmp_le, lg_cmp_ge] at c_29
    simp (discharger := decide) only [gf_0_k] at c_29
    refine g_aload_n C dX11_goFlight_32 0 rfl ?_
    refine gf_X11_radar C tw1281 dX11_goFlight_33 ?_
    refine g_iconst C dX11_goFlight_36 (v := 1) (by decide) ?_
    refine g_topi (y := nI 1) rfl ?_
    refine al_62 C (by omega) dX11_goFlight_37 ?_
    refine g_abs C dX11_goFlight_38 tw1679 (Nat.le_of_ble_eq_true rfl) (by rw [hR]; exact ⟨Nat.le_of_ble_eq_true rfl, Nat.le_of_ble_eq_true rfl, Nat.zero_le _, Nat.zero_le _⟩) ?_
    refine g_topi (y := absI _) rfl ?_
    refine g_bipush C dX11_goFlight_41 (v := 100) (by decide) ?_
    refine g_icmp_le C dX11_goFlight_43 (tgt := 50) (by decide) (fun c_43 => ?_) (fun c_43 => ?_)
    · try simp only [sa_ap, si_ap, reduceIte, Nat.reduceEqDiff, up_us, lg_cmp_lt, lg_cmp_gt, lg_cmp_le, lg_cmp_ge] at c_43
      simp (discharger := decide) only [gf_0_k] at c_43
      have c_o : gf_o M = 0 := (if_neg c_29).trans (if_pos c_43)
      refine g_iconst C dX11_goFlight_50 (v := 0) (by decide) ?_
      refine g_istore_n C dX11_goFlight_51 (L' := [(1, .int 0), (0, .ref (gad G 42))]) rfl (by rw [hL]; decide) ?_
      refine g_aload_n C dX11_goFlight_52 1 rfl ?_
      refine g_aload_n C dX11_goFlight_53 1 rfl ?_
      refine gf_X11_radar C tw1281 dX11_goFlight_54 ?_
      refine g_iconst C dX11_goFlight_57 (v := 0) (by decide) ?_
      refine g_topi (y := nI 0) rfl ?_
      refine al_62 C (by omega) dX11_goFlight_58 ?_
      refine g_aload_n C dX11_goFlight_59 1 rfl ?_
      refine gf_X11_radar C tw1281 dX11_goFlight_60 ?_
      refine g_iconst C dX11_goFlight_63 (v := 1) (by decide) ?_
      refine g_topi (y := nI 1) rfl ?_
      refine al_62 C (by omega) dX11_goFlight_64 ?_
      refine g_isub C dX11_goFlight_65 ?_
      refine g_abs C dX11_goFlight_66 tw1679 (Nat.le_of_ble_eq_true rfl) (by rw [hR]; exact ⟨Nat.le_of_ble_eq_true rfl, Nat.le_of_ble_eq_true rfl, Nat.zero_le _, Nat.zero_le _⟩) ?_
      refine g_topi (y := absI _) rfl ?_
      refine g_bipush C dX11_goFlight_69 (v := 20) (by decide) ?_
      refine g_icmp_le C dX11_goFlight_71 (tgt := 83) (by decide) (fun c_71 => ?_) (fun c_71 => ?_)
      · try simp only [sa_ap, si_ap, reduceIte, Nat.reduceEqDiff, up_us, lg_cmp_lt, lg_cmp_gt, lg_cmp_le, lg_cmp_ge] at c_71
        simp (discharger := decide) only [gf_0_k] at c_71
        refine g_iconst C dX11_goFlight_83 (v := 0) (by decide) ?_
        refine pf_X11_unlike C tw1257 dX11_goFlight_84 ?_
        refine g_M (M' := gf_1 M) (by unfold gf_1 gf_u; (repeat' split) <;> first | contradiction | rfl) ?_
        refine g_iload_n C dX11_goFlight_87 0 rfl ?_
        refine g_if_ne C dX11_goFlight_88 (tgt := 99) (by decide) (fun c_88 => absurd c_88 (by decide)) (fun c_88 => ?_)
        refine g_aload_n C dX11_goFlight_91 1 rfl ?_
        refine gf_X11_unlike C tw1257 dX11_goFlight_92 ?_
        refine g_topi (y := gf_u M) (by rfl) ?_
        refine g_iconst C dX11_goFlight_95 (v := 3) (by decide) ?_
        refine g_icmp_ne C dX11_goFlight_96 (tgt := 134) (by decide) (fun c_96 => ?_) (fun c_96 => ?_)
        · try simp only [sa_ap, si_ap, reduceIte, Nat.reduceEqDiff, up_us, lg_cmp_lt, lg_cmp_gt, lg_cmp_le, lg_cmp_ge] at c_96
          refine g_aload_n C dX11_goFlight_134 1 rfl ?_
          refine gf_X11_flown C tw1256 dX11_goFlight_135 ?_
          refine g_topi (y := M 111 0 + 1) (by rfl) ?_
          refine g_bipush C dX11_goFlight_138 (v := 60) (by decide) ?_
          refine g_icmp_ne C dX11_goFlight_140 (tgt := 155) (by decide) (fun c_140 => ?_) (fun c_140 => ?_)
          · try simp only [sa_ap, si_ap, reduceIte, Nat.reduceEqDiff, up_us, lg_cmp_lt, lg_cmp_gt, lg_cmp_le, lg_cmp_ge] at c_140
            refine g_vretW C hr hQ (by omega) (by omega) dX11_goFlight_155 ?_
            exact ⟨rfl, (by (try unfold gf_A); (try unfold gf_x); (all_goals first | rw [if_pos c_o] | rw [if_neg c_o] | skip); (all_goals first | rw [if_pos c_96] | rw [if_neg c_96] | skip); (all_goals first | rw [if_pos c_140] | rw [if_neg c_140] | skip); all_goals first | rfl), (by (try unfold gf_A); (try unfold gf_x); (all_goals first | rw [if_pos c_o] | rw [if_neg c_o] | skip); (all_goals first | rw [if_pos c_96] | rw [if_neg c_96] | skip); (all_goals first | rw [if_pos c_140] | rw [if_neg c_140] | skip); all_goals first | with_reducible rfl | (simp only [kLs_1, kLs_0, kLs_app]; done))⟩
          · try simp only [sa_ap, si_ap, reduceIte, Nat.reduceEqDiff, up_us, lg_cmp_lt, lg_cmp_gt, lg_cmp_le, lg_cmp_ge] at c_140
            refine g_aload_n C dX11_goFlight_143 1 rfl ?_
            refine g_bipush C dX11_goFlight_144 (v := 111) (by decide) ?_
            refine pf_X11_state C ⟨by decide, by decide⟩ tw1245 dX11_goFlight_146 ?_
            refine g_aload_n C dX11_goFlight_149 1 rfl ?_
            refine g_bipush C dX11_goFlight_150 (v := 79) (by decide) ?_
            have hk1 := kq (show kLs K 1 v (gf_A M).2 = kLg K 1 v 79 from (by (try unfold gf_A); (try unfold gf_x); (all_goals first | rw [if_pos c_o] | rw [if_neg c_o] | skip); (all_goals first | rw [if_pos c_96] | rw [if_neg c_96] | skip); (all_goals first | rw [if_pos c_140] | rw [if_neg c_140] | skip); all_goals first | with_reducible rfl | (simp only [kLs_1, kLs_0, kLs_app]; done)))
            have gl79 := kLg_le1 (K) v 79
            refine g_callVvW C dX11_goFlight_152 (c_X11_note _ _ _ _ _ _ _ _ _ v 79 (by omega) (by decide) (by show (gf_1 M) 101 0 = nI v; rw [gf_1_k _ (by decide)]; exact hv0) (by omega) (by omega)) tw1631 tw1633 tp29 tw16 tw1634 (rv_X11 C) rfl ⟨by decide +kernel, by decide +kernel, rfl⟩ ⟨rfl, rfl⟩ (by rw [hR]; exact ⟨Nat.le_of_ble_eq_true rfl, Nat.le_of_ble_eq_true rfl⟩) (Nat.le_of_ble_eq_true rfl) (by omega) (fun X1 M1 K1 h_5 => ?_)
            obtain ⟨hX1, hM1, hK1⟩ := h_5
            subst X1 M1 K1
            refine g_vretW C hr hQ (by omega) (by omega) dX11_goFlight_155 ?_
            exact ⟨rfl, (by (try unfold gf_A); (try unfold gf_x); (all_goals first | rw [if_pos c_o] | rw [if_neg c_o] | skip); (all_goals first | rw [if_pos c_96] | rw [if_neg c_96] | skip); (all_goals first | rw [if_pos c_140] | rw [if_neg c_140] | skip); all_goals first | rfl), (by (try unfold gf_A); (try unfold gf_x); (all_goals first | rw [if_pos c_o] | rw [if_neg c_o] | skip); (all_goals first | rw [if_pos c_96] | rw [if_neg c_96] | skip); (all_goals first | rw [if_pos c_140] | rw [if_neg c_140] | skip); all_goals first | with_reducible rfl | (simp only [kLs_1, kLs_0, kLs_app]; done))⟩
        · try simp only [sa_ap, si_ap, reduceIte, Nat.reduceEqDiff, up_us, lg_cmp_lt, lg_cmp_gt, lg_cmp_le, lg_cmp_ge] at c_96
          refine g_aload_n C dX11_goFlight_99 1 rfl ?_
          refine g_bipush C dX11_goFlight_100 (v := 120) (by decide) ?_
          refine pf_X11_state C ⟨by decide, by decide⟩ tw1245 dX11_goFlight_102 ?_
          refine g_aload_n C dX11_goFlight_105 1 rfl ?_
          refine g_iload_n C dX11_goFlight_106 0 rfl ?_
          refine g_if_eq C dX11_goFlight_107 (tgt := 115) (by decide) (fun c_107 => ?_) (fun c_107 => absurd (by decide) c_107)
          refine g_bipush C dX11_goFlight_115 (v := 114) (by decide) ?_
          refine pf_X11_cause C ⟨by decide, by decide⟩ tw1252 dX11_goFlight_117 ?_
          refine g_aload_n C dX11_goFlight_120 1 rfl ?_
          refine g_iconst C dX11_goFlight_121 (v := (-1)) (by decide) ?_
          refine pf_X11_causeRule C tw1253 dX11_goFlight_122 ?_
          refine g_aload_n C dX11_goFlight_125 1 rfl ?_
          refine g_bipush C dX11_goFlight_126 (v := 88) (by decide) ?_
          have hk1 := kq (show kLs K 1 v (gf_A M).2 = kLg K 1 v 88 from (by (try unfold gf_A); (try unfold gf_x); (all_goals first | rw [if_pos c_o] | rw [if_neg c_o] | skip); (all_goals first | rw [if_pos c_96] | rw [if_neg c_96] | skip); (all_goals first | rw [if_pos c_140] | rw [if_neg c_140] | skip); all_goals first | with_reducible rfl | (simp only [kLs_1, kLs_0, kLs_app]; done)))
          have gl88 := kLg_le1 (K) v 88
          refine g_callVvW C dX11_goFlight_128 (c_X11_note _ _ _ _ _ _ _ _ _ v 88 (by omega) (by decide) (by show (gf_1 M) 101 0 = nI v; rw [gf_1_k _ (by decide)]; exact hv0) (by omega) (by omega)) tw1631 tw1633 tp29 tw16 tw1634 (rv_X11 C) rfl ⟨by decide +kernel, by decide +kernel, rfl⟩ ⟨rfl, rfl⟩ (by rw [hR]; exact ⟨Nat.le_of_ble_eq_true rfl, Nat.le_of_ble_eq_true rfl⟩) (Nat.le_of_ble_eq_true rfl) (by omega) (fun X1 M1 K1 h_6 => ?_)
          obtain ⟨hX1, hM1, hK1⟩ := h_6
          subst X1 M1 K1
          refine g_goto C dX11_goFlight_131 (tgt := 155) (by decide) ?_
          refine g_vretW C hr hQ (by omega) (by omega) dX11_goFlight_155 ?_
          exact ⟨rfl, (by (try unfold gf_A); (try unfold gf_x); (all_goals first | rw [if_pos c_o] | rw [if_neg c_o] | skip); (all_goals first | rw [if_pos c_96] | rw [if_neg c_96] | skip); (all_goals first | rw [if_pos c_140] | rw [if_neg c_140] | skip); all_goals first | rfl), (by (try unfold gf_A); (try unfold gf_x); (all_goals first | rw [if_pos c_o] | rw [if_neg c_o] | skip); (all_goals first | rw [if_pos c_96] | rw [if_neg c_96] | skip); (all_goals first | rw [if_pos c_140] | rw [if_neg c_140] | skip); all_goals first | with_reducible rfl | (simp only [kLs_1, kLs_0, kLs_app]; done))⟩
      · try simp only [sa_ap, si_ap, reduceIte, Nat.reduceEqDiff, up_us, lg_cmp_lt, lg_cmp_gt, lg_cmp_le, lg_cmp_ge] at c_71
        simp (discharger := decide) only [gf_0_k] at c_71
        refine g_aload_n C dX11_goFlight_74 1 rfl ?_
        refine gf_X11_unlike C tw1257 dX11_goFlight_75 ?_
        refine g_iconst C dX11_goFlight_78 (v := 1) (by decide) ?_
        refine g_iadd C dX11_goFlight_79 ?_
        refine g_goto C dX11_goFlight_80 (tgt := 84) (by decide) ?_
        refine pf_X11_unlike C tw1257 dX11_goFlight_84 ?_
        refine g_M (M' := gf_1 M) (by unfold gf_1 gf_u; (repeat' split) <;> first | contradiction | rfl) ?_
        refine g_iload_n C dX11_goFlight_87 0 rfl ?_
        refine g_if_ne C dX11_goFlight_88 (tgt := 99) (by decide) (fun c_88 => absurd c_88 (by decide)) (fun c_88 => ?_)
        refine g_aload_n C dX11_goFlight_91 1 rfl ?_
        refine gf_X11_unlike C tw1257 dX11_goFlight_92 ?_
        refine g_topi (y := gf_u M) (by rfl) ?_
        refine g_iconst C dX11_goFlight_95 (v := 3) (by decide) ?_
        refine g_icmp_ne C dX11_goFlight_96 (tgt := 134) (by decide) (fun c_96 => ?_) (fun c_96 => ?_)
        · try simp only [sa_ap, si_ap, reduceIte, Nat.reduceEqDiff, up_us, lg_cmp_lt, lg_cmp_gt, lg_cmp_le, lg_cmp_ge] at c_96
          refine g_aload_n C dX11_goFlight_134 1 rfl ?_
          refine gf_X11_flown C tw1256 dX11_goFlight_135 ?_
          refine g_topi (y := M 111 0 + 1) (by rfl) ?_
          refine g_bipush C dX11_goFlight_138 (v := 60) (by decide) ?_
          refine g_icmp_ne C dX11_goFlight_140 (tgt := 155) (by decide) (fun c_140 => ?_) (fun c_140 => ?_)
          · try simp only [sa_ap, si_ap, reduceIte, Nat.reduceEqDiff, up_us, lg_cmp_lt, lg_cmp_gt, lg_cmp_le, lg_cmp_ge] at c_140
            refine g_vretW C hr hQ (by omega) (by omega) dX11_goFlight_155 ?_
            exact ⟨rfl, (by (try unfold gf_A); (try unfold gf_x); (all_goals first | rw [if_pos c_o] | rw [if_neg c_o] | skip); (all_goals first | rw [if_pos c_96] | rw [if_neg c_96] | skip); (all_goals first | rw [if_pos c_140] | rw [if_neg c_140] | skip); all_goals first | rfl), (by (try unfold gf_A); (try unfold gf_x); (all_goals first | rw [if_pos c_o] | rw [if_neg c_o] | skip); (all_goals first | rw [if_pos c_96] | rw [if_neg c_96] | skip); (all_goals first | rw [if_pos c_140] | rw [if_neg c_140] | skip); all_goals first | with_reducible rfl | (simp only [kLs_1, kLs_0, kLs_app]; done))⟩
          · try simp only [sa_ap, si_ap, reduceIte, Nat.reduceEqDiff, up_us, lg_cmp_lt, lg_cmp_gt, lg_cmp_le, lg_cmp_ge] at c_140
            refine g_aload_n C dX11_goFlight_143 1 rfl ?_
            refine g_bipush C dX11_goFlight_144 (v := 111) (by decide) ?_
            refine pf_X11_state C ⟨by decide, by decide⟩ tw1245 dX11_goFlight_146 ?_
            refine g_aload_n C dX11_goFlight_149 1 rfl ?_
            refine g_bipush C dX11_goFlight_150 (v := 79) (by decide) ?_
            have hk1 := kq (show kLs K 1 v (gf_A M).2 = kLg K 1 v 79 from (by (try unfold gf_A); (try unfold gf_x); (all_goals first | rw [if_pos c_o] | rw [if_neg c_o] | skip); (all_goals first | rw [if_pos c_96] | rw [if_neg c_96] | skip); (all_goals first | rw [if_pos c_140] | rw [if_neg c_140] | skip); all_goals first | with_reducible rfl | (simp only [kLs_1, kLs_0, kLs_app]; done)))
            have gl79 := kLg_le1 (K) v 79
            refine g_callVvW C dX11_goFlight_152 (c_X11_note _ _ _ _ _ _ _ _ _ v 79 (by omega) (by decide) (by show (gf_1 M) 101 0 = nI v; rw [gf_1_k _ (by decide)]; exact hv0) (by omega) (by omega)) tw1631 tw1633 tp29 tw16 tw1634 (rv_X11 C) rfl ⟨by decide +kernel, by decide +kernel, rfl⟩ ⟨rfl, rfl⟩ (by rw [hR]; exact ⟨Nat.le_of_ble_eq_true rfl, Nat.le_of_ble_eq_true rfl⟩) (Nat.le_of_ble_eq_true rfl) (by omega) (fun X1 M1 K1 h_7 => ?_)
            obtain ⟨hX1, hM1, hK1⟩ := h_7
            subst X1 M1 K1
            refine g_vretW C hr hQ (by omega) (by omega) dX11_goFlight_155 ?_
            exact ⟨rfl, (by (try unfold gf_A); (try unfold gf_x); (all_goals first | rw [if_pos c_o] | rw [if_neg c_o] | skip); (all_goals first | rw [if_pos c_96] | rw [if_neg c_96] | skip); (all_goals first | rw [if_pos c_140] | rw [if_neg c_140] | skip); all_goals first | rfl), (by (try unfold gf_A); (try unfold gf_x); (all_goals first | rw [if_pos c_o] | rw [if_neg c_o] | skip); (all_goals first | rw [if_pos c_96] | rw [if_neg c_96] | skip); (all_goals first | rw [if_pos c_140] | rw [if_neg c_140] | skip); all_goals first | with_reducible rfl | (simp only [kLs_1, kLs_0, kLs_app]; done))⟩
        · try simp only [sa_ap, si_ap, reduceIte, Nat.reduceEqDiff, up_us, lg_cmp_lt, lg_cmp_gt, lg_cmp_le, lg_cmp_ge] at c_96
          refine g_aload_n C dX11_goFlight_99 1 rfl ?_
          refine g_bipush C dX11_goFlight_100 (v := 120) (by decide) ?_
          refine pf_X11_state C ⟨by decide, by decide⟩ tw1245 dX11_goFlight_102 ?_
          refine g_aload_n C dX11_goFlight_105 1 rfl ?_
          refine g_iload_n C dX11_goFlight_106 0 rfl ?_
          refine g_if_eq C dX11_goFlight_107 (tgt := 115) (by decide) (fun c_107 => ?_) (fun c_107 => absurd (by decide) c_107)
          refine g_bipush C dX11_goFlight_115 (v := 114) (by decide) ?_
          refine pf_X11_cause C ⟨by decide, by decide⟩ tw1252 dX11_goFlight_117 ?_
          refine g_aload_n C dX11_goFlight_120 1 rfl ?_
          refine g_iconst C dX11_goFlight_121 (v := (-1)) (by decide) ?_
          refine pf_X11_causeRule C tw1253 dX11_goFlight_122 ?_
          refine g_aload_n C dX11_goFlight_125 1 rfl ?_
          refine g_bipush C dX11_goFlight_126 (v := 88) (by decide) ?_
          have hk1 := kq (show kLs K 1 v (gf_A M).2 = kLg K 1 v 88 from (by (try unfold gf_A); (try unfold gf_x); (all_goals first | rw [if_pos c_o] | rw [if_neg c_o] | skip); (all_goals first | rw [if_pos c_96] | rw [if_neg c_96] | skip); (all_goals first | rw [if_pos c_140] | rw [if_neg c_140] | skip); all_goals first | with_reducible rfl | (simp only [kLs_1, kLs_0, kLs_app]; done)))
          have gl88 := kLg_le1 (K) v 88
          refine g_callVvW C dX11_goFlight_128 (c_X11_note _ _ _ _ _ _ _ _ _ v 88 (by omega) (by decide) (by show (gf_1 M) 101 0 = nI v; rw [gf_1_k _ (by decide)]; exact hv0) (by omega) (by omega)) tw1631 tw1633 tp29 tw16 tw1634 (rv_X11 C) rfl ⟨by decide +kernel, by decide +kernel, rfl⟩ ⟨rfl, rfl⟩ (by rw [hR]; exact ⟨Nat.le_of_ble_eq_true rfl, Nat.le_of_ble_eq_true rfl⟩) (Nat.le_of_ble_eq_true rfl) (by omega) (fun X1 M1 K1 h_8 => ?_)
          obtain ⟨hX1, hM1, hK1⟩ := h_8
          subst X1 M1 K1
          refine g_goto C dX11_goFlight_131 (tgt := 155) (by decide) ?_
          refine g_vretW C hr hQ (by omega) (by omega) dX11_goFlight_155 ?_
          exact ⟨rfl, (by (try unfold gf_A); (try unfold gf_x); (all_goals first | rw [if_pos c_o] | rw [if_neg c_o] | skip); (all_goals first | rw [if_pos c_96] | rw [if_neg c_96] | skip); (all_goals first | rw [if_pos c_140] | rw [if_neg c_140] | skip); all_goals first | rfl), (by (try unfold gf_A); (try unfold gf_x); (all_goals first | rw [if_pos c_o] | rw [if_neg c_o] | skip); (all_goals first | rw [if_pos c_96] | rw [if_neg c_96] | skip); (all_goals first | rw [if_pos c_140] | rw [if_neg c_140] | skip); all_goals first | with_reducible rfl | (simp only [kLs_1, kLs_0, kLs_app]; done))⟩
    · try simp only [sa_ap, si_ap, reduceIte, Nat.reduceEqDiff, up_us, lg_cmp_lt, lg_cmp_gt, lg_cmp_le, lg_cmp_ge] at c_43
      simp (discharger := decide) only [gf_0_k] at c_43
      have c_o : ¬ gf_o M = 0 := by unfold gf_o; rw [if_neg c_29, if_neg c_43]; decide
      refine g_iconst C dX11_goFlight_46 (v := 1) (by decide) ?_
      refine g_goto C dX11_goFlight_47 (tgt := 51) (by decide) ?_
      refine g_istore_n C dX11_goFlight_51 (L' := [(1, .int 1), (0, .ref (gad G 42))]) rfl (by rw [hL]; decide) ?_
      refine g_aload_n C dX11_goFlight_52 1 rfl ?_
      refine g_aload_n C dX11_goFlight_53 1 rfl ?_
      refine gf_X11_radar C tw1281 dX11_goFlight_54 ?_
      refine g_iconst C dX11_goFlight_57 (v := 0) (by decide) ?_
      refine g_topi (y := nI 0) rfl ?_
      refine al_62 C (by omega) dX11_goFlight_58 ?_
      refine g_aload_n C dX11_goFlight_59 1 rfl ?_
      refine gf_X11_radar C tw1281 dX11_goFlight_60 ?_
      refine g_iconst C dX11_goFlight_63 (v := 1) (by decide) ?_
      refine g_topi (y := nI 1) rfl ?_
      refine al_62 C (by omega) dX11_goFlight_64 ?_
      refine g_isub C dX11_goFlight_65 ?_
      refine g_abs C dX11_goFlight_66 tw1679 (Nat.le_of_ble_eq_true rfl) (by rw [hR]; exact ⟨Nat.le_of_ble_eq_true rfl, Nat.le_of_ble_eq_true rfl, Nat.zero_le _, Nat.zero_le _⟩) ?_
      refine g_topi (y := absI _) rfl ?_
      refine g_bipush C dX11_goFlight_69 (v := 20) (by decide) ?_
      refine g_icmp_le C dX11_goFlight_71 (tgt := 83) (by decide) (fun c_71 => ?_) (fun c_71 => ?_)
      · try simp only [sa_ap, si_ap, reduceIte, Nat.reduceEqDiff, up_us, lg_cmp_lt, lg_cmp_gt, lg_cmp_le, lg_cmp_ge] at c_71
        simp (discharger := decide) only [gf_0_k] at c_71
        refine g_iconst C dX11_goFlight_83 (v := 0) (by decide) ?_
        refine pf_X11_unlike C tw1257 dX11_goFlight_84 ?_
        refine g_M (M' := gf_1 M) (by unfold gf_1 gf_u; (repeat' split) <;> first | contradiction | rfl) ?_
        refine g_iload_n C dX11_goFlight_87 0 rfl ?_
        refine g_if_ne C dX11_goFlight_88 (tgt := 99) (by decide) (fun c_88 => ?_) (fun c_88 => absurd c_88 (by decide))
        refine g_aload_n C dX11_goFlight_99 1 rfl ?_
        refine g_bipush C dX11_goFlight_100 (v := 120) (by decide) ?_
        refine pf_X11_state C ⟨by decide, by decide⟩ tw1245 dX11_goFlight_102 ?_
        refine g_aload_n C dX11_goFlight_105 1 rfl ?_
        refine g_iload_n C dX11_goFlight_106 0 rfl ?_
        refine g_if_eq C dX11_goFlight_107 (tgt := 115) (by decide) (fun c_107 => absurd c_107 (by decide)) (fun c_107 => ?_)
        refine g_bipush C dX11_goFlight_110 (v := 100) (by decide) ?_
        refine g_goto C dX11_goFlight_112 (tgt := 117) (by decide) ?_
        refine pf_X11_cause C ⟨by decide, by decide⟩ tw1252 dX11_goFlight_117 ?_
        refine g_aload_n C dX11_goFlight_120 1 rfl ?_
        refine g_iconst C dX11_goFlight_121 (v := (-1)) (by decide) ?_
        refine pf_X11_causeRule C tw1253 dX11_goFlight_122 ?_
        refine g_aload_n C dX11_goFlight_125 1 rfl ?_
        refine g_bipush C dX11_goFlight_126 (v := 88) (by decide) ?_
        have hk1 := kq (show kLs K 1 v (gf_A M).2 = kLg K 1 v 88 from (by (try unfold gf_A); (try unfold gf_x); (all_goals first | rw [if_pos c_o] | rw [if_neg c_o] | skip); (all_goals first | rw [if_pos c_96] | rw [if_neg c_96] | skip); (all_goals first | rw [if_pos c_140] | rw [if_neg c_140] | skip); all_goals first | with_reducible rfl | (simp only [kLs_1, kLs_0, kLs_app]; done)))
        have gl88 := kLg_le1 (K) v 88
        refine g_callVvW C dX11_goFlight_128 (c_X11_note _ _ _ _ _ _ _ _ _ v 88 (by omega) (by decide) (by show (gf_1 M) 101 0 = nI v; rw [gf_1_k _ (by decide)]; exact hv0) (by omega) (by omega)) tw1631 tw1633 tp29 tw16 tw1634 (rv_X11 C) rfl ⟨by decide +kernel, by decide +kernel, rfl⟩ ⟨rfl, rfl⟩ (by rw [hR]; exact ⟨Nat.le_of_ble_eq_true rfl, Nat.le_of_ble_eq_true rfl⟩) (Nat.le_of_ble_eq_true rfl) (by omega) (fun X1 M1 K1 h_9 => ?_)
        obtain ⟨hX1, hM1, hK1⟩ := h_9
        subst X1 M1 K1
        refine g_goto C dX11_goFlight_131 (tgt := 155) (by decide) ?_
        refine g_vretW C hr hQ (by omega) (by omega) dX11_goFlight_155 ?_
        exact ⟨rfl, (by (try unfold gf_A); (try unfold gf_x); (all_goals first | rw [if_pos c_o] | rw [if_neg c_o] | skip); (all_goals first | rw [if_pos c_96] | rw [if_neg c_96] | skip); (all_goals first | rw [if_pos c_140] | rw [if_neg c_140] | skip); all_goals first | rfl), (by (try unfold gf_A); (try unfold gf_x); (all_goals first | rw [if_pos c_o] | rw [if_neg c_o] | skip); (all_goals first | rw [if_pos c_96] | rw [if_neg c_96] | skip); (all_goals first | rw [if_pos c_140] | rw [if_neg c_140] | skip); all_goals first | with_reducible rfl | (simp only [kLs_1, kLs_0, kLs_app]; done))⟩
      · try simp only [sa_ap, si_ap, reduceIte, Nat.reduceEqDiff, up_us, lg_cmp_lt, lg_cmp_gt, lg_cmp_le, lg_cmp_ge] at c_71
        simp (discharger := decide) only [gf_0_k] at c_71
        refine g_aload_n C dX11_goFlight_74 1 rfl ?_
        refine gf_X11_unlike C tw1257 dX11_goFlight_75 ?_
        refine g_iconst C dX11_goFlight_78 (v := 1) (by decide) ?_
        refine g_iadd C dX11_goFlight_79 ?_
        refine g_goto C dX11_goFlight_80 (tgt := 84) (by decide) ?_
        refine pf_X11_unlike C tw1257 dX11_goFlight_84 ?_
        refine g_M (M' := gf_1 M) (by unfold gf_1 gf_u; (repeat' split) <;> first | contradiction | rfl) ?_
        refine g_iload_n C dX11_goFlight_87 0 rfl ?_
        refine g_if_ne C dX11_goFlight_88 (tgt := 99) (by decide) (fun c_88 => ?_) (fun c_88 => absurd c_88 (by decide))
        refine g_aload_n C dX11_goFlight_99 1 rfl ?_
        refine g_bipush C dX11_goFlight_100 (v := 120) (by decide) ?_
        refine pf_X11_state C ⟨by decide, by decide⟩ tw1245 dX11_goFlight_102 ?_
        refine g_aload_n C dX11_goFlight_105 1 rfl ?_
        refine g_iload_n C dX11_goFlight_106 0 rfl ?_
        refine g_if_eq C dX11_goFlight_107 (tgt := 115) (by decide) (fun c_107 => absurd c_107 (by decide)) (fun c_107 => ?_)
        refine g_bipush C dX11_goFlight_110 (v := 100) (by decide) ?_
        refine g_goto C dX11_goFlight_112 (tgt := 117) (by decide) ?_
        refine pf_X11_cause C ⟨by decide, by decide⟩ tw1252 dX11_goFlight_117 ?_
        refine g_aload_n C dX11_goFlight_120 1 rfl ?_
        refine g_iconst C dX11_goFlight_121 (v := (-1)) (by decide) ?_
        refine pf_X11_causeRule C tw1253 dX11_goFlight_122 ?_
        refine g_aload_n C dX11_goFlight_125 1 rfl ?_
        refine g_bipush C dX11_goFlight_126 (v := 88) (by decide) ?_
        have hk1 := kq (show kLs K 1 v (gf_A M).2 = kLg K 1 v 88 from (by (try unfold gf_A); (try unfold gf_x); (all_goals first | rw [if_pos c_o] | rw [if_neg c_o] | skip); (all_goals first | rw [if_pos c_96] | rw [if_neg c_96] | skip); (all_goals first | rw [if_pos c_140] | rw [if_neg c_140] | skip); all_goals first | with_reducible rfl | (simp only [kLs_1, kLs_0, kLs_app]; done)))
        have gl88 := kLg_le1 (K) v 88
        refine g_callVvW C dX11_goFlight_128 (c_X11_note _ _ _ _ _ _ _ _ _ v 88 (by omega) (by decide) (by show (gf_1 M) 101 0 = nI v; rw [gf_1_k _ (by decide)]; exact hv0) (by omega) (by omega)) tw1631 tw1633 tp29 tw16 tw1634 (rv_X11 C) rfl ⟨by decide +kernel, by decide +kernel, rfl⟩ ⟨rfl, rfl⟩ (by rw [hR]; exact ⟨Nat.le_of_ble_eq_true rfl, Nat.le_of_ble_eq_true rfl⟩) (Nat.le_of_ble_eq_true rfl) (by omega) (fun X1 M1 K1 h_10 => ?_)
        obtain ⟨hX1, hM1, hK1⟩ := h_10
        subst X1 M1 K1
        refine g_goto C dX11_goFlight_131 (tgt := 155) (by decide) ?_
        refine g_vretW C hr hQ (by omega) (by omega) dX11_goFlight_155 ?_
        exact ⟨rfl, (by (try unfold gf_A); (try unfold gf_x); (all_goals first | rw [if_pos c_o] | rw [if_neg c_o] | skip); (all_goals first | rw [if_pos c_96] | rw [if_neg c_96] | skip); (all_goals first | rw [if_pos c_140] | rw [if_neg c_140] | skip); all_goals first | rfl), (by (try unfold gf_A); (try unfold gf_x); (all_goals first | rw [if_pos c_o] | rw [if_neg c_o] | skip); (all_goals first | rw [if_pos c_96] | rw [if_neg c_96] | skip); (all_goals first | rw [if_pos c_140] | rw [if_neg c_140] | skip); all_goals first | with_reducible rfl | (simp only [kLs_1, kLs_0, kLs_app]; done))⟩

set_option maxHeartbeats 1000000 in
set_option maxRecDepth 100000 in
/-- pass.pass -/
theorem c_X11_pass (l : Launch) (D : va_G) (cy : Nat → ClassId) (A : Nat → Prop) (ad sad : Nat → Nat) (X M : XF) (K : KF) (p1 : Int32) (v z zs z5 z8 : Nat) (hs : okM v z zs z5 z8 M) (hzl : z ≤ 12) (h5 : z5 ≤ 6) (h8 : z8 ≤ 16) (hzk : zs ≤ K.2.1 2) (hk2 : K.2.1 2 < 2 ^ 31) (hv : v ≤ 100000) (h16 : 16 ≤ K.2.1 1) (hcap : ((gs_P z zs z5 z8 v (si M 100 0) K p1.toNatClampNeg).2).2.1 1 < 2 ^ 26) : Met l yX11_pass (wsA yX11_pass cX11_pass 4 (some .int)) ({ frames := 9, cells := ((gs_P z zs z5 z8 v (si M 100 0) K p1.toNatClampNeg).2).2.1 5 - K.2.1 5, slots := ((gs_P z zs z5 z8 v (si M 100 0) K p1.toNatClampNeg).2).2.1 7 - K.2.1 7, locals := 253 }) (PcW D cy A ad sad X M K [.ref (ad 42), .int p1]) (QiW D cy A ad (fun r X1 M1 K1 => r = (if xs_pass (M 101 0) p1 = 0 then nI (v + p1.toNatClampNeg) else 0) ∧ X1 = X ∧ M1 = (if xs_pass (M 101 0) p1 = 0 then (gs_P z zs z5 z8 v (si M 100 0) K p1.toNatClampNeg).1 else si M 100 (xs_pass (M 101 0) p1)) ∧ K1 = (if xs_pass (M 101 0) p1 = 0 then (gs_P z zs z5 z8 v (si M 100 0) K p1.toNatClampNeg).2 else K))) (((gs_P z zs z5 z8 v (si M 100 0) K p1.toNatClampNeg).2).2.1 5 - K.2.1 5) (((gs_P z zs z5 z8 v (si M 100 0) K p1.toNatClampNeg).2).2.1 7 - K.2.1 7) A := by
  refine met_ofW [(0, .ref (ad 42)), (1, .int p1)] (by decide +kernel) (Nat.le_of_ble_eq_true rfl) rfl ?_
  intro G C hl hR hL hD hcy hA had hsa hr hQ
  subst hD hcy hA had hsa hl
  have hrc : (gR G).cells = ((gs_P z zs z5 z8 v (si M 100 0) K p1.toNatClampNeg).2).2.1 5 - K.2.1 5 := by rw [hR]
  have hrs : (gR G).slots = ((gs_P z zs z5 z8 v (si M 100 0) K p1.toNatClampNeg).2).2.1 7 - K.2.1 7 := by rw [hR]
  obtain ⟨hv0, hz8, hz5, hz, hzs, h107, h109, hk63, ho, h0⟩ := id hs
  have hs0 : okM v z zs z5 z8 (si M 100 0) := hs
  refine g_aload_n C dX11_pass_0 0 rfl ?_
  refine g_iconst C dX11_pass_1 (v := 0) (by decide) ?_
  refine pf_X11_thrown C tw1243 dX11_pass_2 ?_
  refine g_aload_n C dX11_pass_5 0 rfl ?_
  refine g_iload_n C dX11_pass_6 1 rfl ?_
  refine g_i2l C dX11_pass_7 ?_
  refine g_lconst C dX11_pass_8 (v := 1) (by decide) ?_
  refine g_ldc2 C dX11_pass_9 tw1653 ?_
  refine g_callSiW C dX11_pass_12 (c_X11_in _ _ _ _ _ _ _ _ _ _ _ _) tw1406 tw1407 tw16 tw1408 rfl ⟨by decide +kernel, by decide +kernel, rfl⟩ ⟨rfl, rfl⟩ (by rw [hR]; exact ⟨Nat.le_of_ble_eq_true rfl, Nat.le_of_ble_eq_true rfl⟩) (Nat.le_of_ble_eq_true rfl) (by omega) (fun r_1 X1 M1 K1 h_2 => ?_)
  obtain ⟨er_1, hX1, hM1, hK1⟩ := h_2
  subst X1 M1 K1
  try simp only [sa_ap, si_ap, reduceIte, Nat.reduceEqDiff] at er_1
  have c_n := er_1
  refine g_if_ne C dX11_pass_15 (tgt := 22) (by decide) (fun c_15 => ?_) (fun c_15 => ?_)
  · try simp only [sa_ap, si_ap, reduceIte, Nat.reduceEqDiff, up_us, lg_cmp_lt, lg_cmp_gt, lg_cmp_le, lg_cmp_ge] at c_15
    rw [c_n] at c_15
    obtain ⟨nn, hn1, hn6, rfl⟩ := lin_ix1 (p := p1) c_15
    have c_cl : (nI nn).toNatClampNeg = nn := nI_clamp (by omega)
    rw [c_cl] at hrc hrs hcap hQ
    refine g_iconst C dX11_pass_22 (v := 0) (by decide) ?_
    refine g_iconst C dX11_pass_23 (v := 1) (by decide) ?_
    refine g_callViW C dX11_pass_24 (c_X11_fails_0 _ _ _ _ _ _ _ _ _ _ (by rfl)) tw1412 tw1414 tp14 tw16 tw1415 (rv_X11 C) rfl ⟨by decide +kernel, by decide +kernel, rfl⟩ ⟨rfl, rfl⟩ (by rw [hR]; exact ⟨Nat.le_of_ble_eq_true rfl, Nat.le_of_ble_eq_true rfl⟩) (Nat.le_of_ble_eq_true rfl) (by omega) (fun r_3 X1 M1 K1 h_4 => ?_)
    obtain ⟨rfl, hX1, hM1, hK1⟩ := h_4
    subst X1 M1 K1
    refine g_if_ne C dX11_pass_27 (tgt := 55) (by decide) (fun c_27 => absurd c_27 (by decide)) (fun c_27 => ?_)
    refine g_aload_n C dX11_pass_30 0 rfl ?_
    refine g_aload_n C dX11_pass_31 0 rfl ?_
    refine gf_X11_second C tw1244 dX11_pass_32 ?_
    refine g_iload_n C dX11_pass_35 1 rfl ?_
    refine g_iadd C dX11_pass_36 ?_
    refine g_ldcw C dX11_pass_37 tw1654 ?_
    refine g_icmp_le C dX11_pass_40 (tgt := 47) (by decide) (fun c_40 => ?_) (fun c_40 => ?_)
    · try simp only [sa_ap, si_ap, reduceIte, Nat.reduceEqDiff, up_us, lg_cmp_lt, lg_cmp_gt, lg_cmp_le, lg_cmp_ge] at c_40
      refine g_iconst C dX11_pass_47 (v := 0) (by decide) ?_
      refine g_iconst C dX11_pass_48 (v := 2) (by decide) ?_
      refine g_callViW C dX11_pass_49 (c_X11_fails_0 _ _ _ _ _ _ _ _ _ _ (by rfl)) tw1412 tw1414 tp14 tw16 tw1415 (rv_X11 C) rfl ⟨by decide +kernel, by decide +kernel, rfl⟩ ⟨rfl, rfl⟩ (by rw [hR]; exact ⟨Nat.le_of_ble_eq_true rfl, Nat.le_of_ble_eq_true rfl⟩) (Nat.le_of_ble_eq_true rfl) (by omega) (fun r_5 X1 M1 K1 h_6 => ?_)
      obtain ⟨rfl, hX1, hM1, hK1⟩ := h_6
      subst X1 M1 K1
      refine g_if_eq C dX11_pass_52 (tgt := 57) (by decide) (fun c_52 => ?_) (fun c_52 => absurd (by decide) c_52)
      refine g_iconst C dX11_pass_57 (v := 0) (by decide) ?_
      refine g_istore_n C dX11_pass_58 (L' := [(2, .int 0), (0, .ref (gad G 42)), (1, .int (nI nn))]) rfl (by rw [hL]; decide) ?_
      have lp59 : ∀ (n i : Nat) (hi : i + n = nn), GH G (WX G X ((gs_P z zs z5 z8 v (si M 100 0) K i).1) ((gs_P z zs z5 z8 v (si M 100 0) K i).2)) [(0, .ref (gad G 42)), (1, .int (nI nn)), (2, .int (nI i))] ((gs_P z zs z5 z8 v (si M 100 0) K i).2.2.1 5 - K.2.1 5) ((gs_P z zs z5 z8 v (si M 100 0) K i).2.2.1 7 - K.2.1 7) 59 [] := by
        intro n
        induction n with
        | zero =>
          intro i hi
          obtain rfl : nn = i := by omega
          have hp0 := gs_le z zs z5 z8 v (si M 100 0) K 0 nn
          rw [Nat.zero_add] at hp0
          have hp00 : (gs_P z zs z5 z8 v (si M 100 0) K 0).2 = K := rfl
          rw [hp00] at hp0
          refine g_iload_n C dX11_pass_59 2 rfl ?_
          refine g_iload_n C dX11_pass_60 1 rfl ?_
          refine g_icmp_ge C dX11_pass_61 (tgt := 184) (by decide) (fun c_61 => ?_) (fun c_61 => absurd (nI_le (a := nn) (b := nn) (Nat.le_refl _) (by omega)) c_61)
          refine g_aload_n C dX11_pass_184 0 rfl ?_
          refine gf_X11_second C tw1244 dX11_pass_185 ?_
          refine g_topi ((hs0.gs K nn).1) ?_
          refine g_iretW C hr hQ (by omega) (by omega) dX11_pass_188 ?_
          exact ⟨(by first | with_reducible rfl | (subst er_1; first | with_reducible rfl | (simp only [sa_ap, si_ap, si_sa, sa_sa, sa_3, sa_4, sa_5, sa_6, sa_7, sa_8, xs_pass, gp_l, md_hn_68, gs_P, up_us, up_up, xs_b, c_15, c_cl, c_40]; done) | (simp [sa_ap, si_ap, si_sa, sa_sa, sa_3, sa_4, sa_5, sa_6, sa_7, sa_8, xs_pass, gp_l, md_hn_68, gs_P, up_us, up_up, xs_b, c_15, c_cl, c_40]; done))), rfl, (by first | with_reducible rfl | (subst er_1; first | with_reducible rfl | (simp only [sa_ap, si_ap, si_sa, sa_sa, sa_3, sa_4, sa_5, sa_6, sa_7, sa_8, xs_pass, gp_l, md_hn_68, gs_P, up_us, up_up, xs_b, c_15, c_cl, c_40]; done) | (simp [sa_ap, si_ap, si_sa, sa_sa, sa_3, sa_4, sa_5, sa_6, sa_7, sa_8, xs_pass, gp_l, md_hn_68, gs_P, up_us, up_up, xs_b, c_15, c_cl, c_40]; done))), (by first | with_reducible rfl | (subst er_1; first | with_reducible rfl | (simp only [sa_ap, si_ap, si_sa, sa_sa, sa_3, sa_4, sa_5, sa_6, sa_7, sa_8, xs_pass, gp_l, md_hn_68, gs_P, up_us, up_up, xs_b, c_15, c_cl, c_40]; done) | (simp [sa_ap, si_ap, si_sa, sa_sa, sa_3, sa_4, sa_5, sa_6, sa_7, sa_8, xs_pass, gp_l, md_hn_68, gs_P, up_us, up_up, xs_b, c_15, c_cl, c_40]; done)))⟩
        | succ n ih =>
          intro i hi
          have hp0 := gs_le z zs z5 z8 v (si M 100 0) K 0 i
          rw [Nat.zero_add] at hp0
          have hp00 : (gs_P z zs z5 z8 v (si M 100 0) K 0).2 = K := rfl
          rw [hp00] at hp0
          have hp1 := gs_le z zs z5 z8 v (si M 100 0) K (i + 1) n
          rw [show i + 1 + n = nn by omega] at hp1
          have hpq := kq (show (gs_P z zs z5 z8 v (si M 100 0) K (i + 1)).2 = kLs (gs_P z zs z5 z8 v (si M 100 0) K i).2 1 (v + i) (gp_A (v + i) z zs z5 z8 (gs_P z zs z5 z8 v (si M 100 0) K i).1 (gs_P z zs z5 z8 v (si M 100 0) K i).2).2 from rfl)
          have hsi := hs0.gs K i
          have hK2 := (gs_k2 z zs z5 z8 v (si M 100 0) K i).1
          have hPe : gs_P z zs z5 z8 v (si M 100 0) K (i + 1) = ((gp_A (v + i) z zs z5 z8 (gs_P z zs z5 z8 v (si M 100 0) K i).1 (gs_P z zs z5 z8 v (si M 100 0) K i).2).1, kLs (gs_P z zs z5 z8 v (si M 100 0) K i).2 1 (v + i) (gp_A (v + i) z zs z5 z8 (gs_P z zs z5 z8 v (si M 100 0) K i).1 (gs_P z zs z5 z8 v (si M 100 0) K i).2).2) := rfl
          generalize (gs_P z zs z5 z8 v (si M 100 0) K i).2 = Ki at *
          generalize (gs_P z zs z5 z8 v (si M 100 0) K i).1 = Mi at *
          have hsi2 := hsi.s2
          have hsi3 := hsi.s3 Ki
          have hpl := kLs_le1 (v + i) (gp_A (v + i) z zs z5 z8 Mi Ki).2 Ki
          have hkf := kq (show kLs Ki 1 (v + i) (gp_A (v + i) z zs z5 z8 Mi Ki).2 = kLs Ki 1 (v + i) (gp_4 (v + i) z zs z5 z8 Ki (gp_3 z zs Ki (gp_2 z8 (gp_1 Mi)))).2 from rfl)
          have j_168 : GH G (WX G X (gp_4 (v + i) z zs z5 z8 Ki (gp_3 z zs Ki (gp_2 z8 (gp_1 Mi)))).1 (kLs Ki 1 (v + i) (gp_4 (v + i) z zs z5 z8 Ki (gp_3 z zs Ki (gp_2 z8 (gp_1 Mi)))).2)) [(0, .ref (gad G 42)), (1, .int (nI nn)), (2, .int (nI i))] ((kLs Ki 1 (v + i) (gp_4 (v + i) z zs z5 z8 Ki (gp_3 z zs Ki (gp_2 z8 (gp_1 Mi)))).2).2.1 5 - K.2.1 5) ((kLs Ki 1 (v + i) (gp_4 (v + i) z zs z5 z8 Ki (gp_3 z zs Ki (gp_2 z8 (gp_1 Mi)))).2).2.1 7 - K.2.1 7) 168 [] := by
            refine g_aload_n C dX11_pass_168 0 rfl ?_
            refine g_dup C dX11_pass_169 rfl ?_
            refine gf_X11_second C tw1244 dX11_pass_170 ?_
            refine g_topi (y := nI (v + i)) (by rw [gp_4_k _ _ _ _ _ _ _ (by decide)]; exact hsi3.1) ?_
            refine g_iconst C dX11_pass_173 (v := 1) (by decide) ?_
            refine g_iadd C dX11_pass_174 ?_
            refine g_topi (nI_1 (v + i)) ?_
            refine pf_X11_second C tw1244 dX11_pass_175 ?_
            refine g_iinc C dX11_pass_178 2 rfl (v := nI (i + 1)) (nI_1 _) (L' := [(2, .int (nI (i + 1))), (0, .ref (gad G 42)), (1, .int (nI nn))]) rfl (by rw [hL]; decide) ?_
            refine g_goto C dX11_pass_181 (tgt := 59) (by decide) ?_
            exact g_sub [1, 2, 0] rfl (g_toM (by rw [hPe]; rfl) (by rw [hPe]; rfl) (by omega) (by omega) (ih (i + 1) (by omega)))
          have j_79 : GH G (WX G X (gp_2 z8 (gp_1 Mi)) Ki) [(0, .ref (gad G 42)), (1, .int (nI nn)), (2, .int (nI i))] (Ki.2.1 5 - K.2.1 5) (Ki.2.1 7 - K.2.1 7) 79 [] := by
            refine g_iconst C dX11_pass_79 (v := 0) (by decide) ?_
            refine g_istore_n C dX11_pass_80 (L' := [(3, .int 0), (0, .ref (gad G 42)), (1, .int (nI nn)), (2, .int (nI i))]) rfl (by rw [hL]; decide) ?_
            have lp81 : ∀ (n q : Nat) (hi : q + n = z), GH G (WX G X (sa (gp_2 z8 (gp_1 Mi)) 68 (gp_l (gp_2 z8 (gp_1 Mi)) Ki zs q)) Ki) [(0, .ref (gad G 42)), (1, .int (nI nn)), (2, .int (nI i)), (3, .int (nI q))] (Ki.2.1 5 - K.2.1 5) (Ki.2.1 7 - K.2.1 7) 81 [] := by
              intro n
              induction n with
              | zero =>
                intro q hi
                obtain rfl : z = q := by omega
                have hsl := okM.l68 (gp_l (gp_2 z8 (gp_1 Mi)) Ki zs z) hsi2
                refine g_iload_n C dX11_pass_81 3 rfl ?_
                refine g_aload_n C dX11_pass_82 0 rfl ?_
                refine gf_X11_rules C tw1282 dX11_pass_83 ?_
                refine g_topi hsl.2.2.2.1 ?_
                refine g_icmp_ge C dX11_pass_86 (tgt := 121) (by decide) (fun c_86 => ?_) (fun c_86 => absurd (nI_le (a := z) (b := z) (Nat.le_refl _) (by omega)) c_86)
                refine g_M (M' := (gp_3 z zs Ki (gp_2 z8 (gp_1 Mi)))) rfl ?_
                refine g_aload_n C dX11_pass_121 0 rfl ?_
                refine g_callViW C dX11_pass_122 (c_X11_isCounting _ _ _ _ _ _ _ _ _ ) tw1436 tw1438 tp15 tw16 tw1439 (rv_X11 C) rfl ⟨by decide +kernel, by decide +kernel, rfl⟩ ⟨rfl, rfl⟩ (by rw [hR]; exact ⟨Nat.le_of_ble_eq_true rfl, Nat.le_of_ble_eq_true rfl⟩) (Nat.le_of_ble_eq_true rfl) (by omega) (fun r_7 X1 M1 K1 h_8 => ?_)
                obtain ⟨er_7, hX1, hM1, hK1⟩ := h_8
                subst X1 M1 K1
                try simp only [sa_ap, si_ap, reduceIte, Nat.reduceEqDiff] at er_7
                have c_j := er_7
                refine g_if_eq C dX11_pass_125 (tgt := 135) (by decide) (fun c_125 => ?_) (fun c_125 => ?_)
                · try simp only [sa_ap, si_ap, reduceIte, Nat.reduceEqDiff, up_us, lg_cmp_lt, lg_cmp_gt, lg_cmp_le, lg_cmp_ge] at c_125
                  rw [c_j] at c_125
                  refine g_aload_n C dX11_pass_135 0 rfl ?_
                  refine gf_X11_state C tw1245 dX11_pass_136 ?_
                  refine g_bipush C dX11_pass_139 (v := 102) (by decide) ?_
                  refine g_icmp_ne C dX11_pass_141 (tgt := 151) (by decide) (fun c_141 => ?_) (fun c_141 => ?_)
                  · try simp only [sa_ap, si_ap, reduceIte, Nat.reduceEqDiff, up_us, lg_cmp_lt, lg_cmp_gt, lg_cmp_le, lg_cmp_ge] at c_141
                    refine g_aload_n C dX11_pass_151 0 rfl ?_
                    refine g_callViW C dX11_pass_152 (c_X11_hasLeft _ _ _ _ _ _ _ _ _ ) tw1440 tw1442 tp16 tw16 tw1443 (rv_X11 C) rfl ⟨by decide +kernel, by decide +kernel, rfl⟩ ⟨rfl, rfl⟩ (by rw [hR]; exact ⟨Nat.le_of_ble_eq_true rfl, Nat.le_of_ble_eq_true rfl⟩) (Nat.le_of_ble_eq_true rfl) (by omega) (fun r_9 X1 M1 K1 h_10 => ?_)
                    obtain ⟨er_9, hX1, hM1, hK1⟩ := h_10
                    subst X1 M1 K1
                    try simp only [sa_ap, si_ap, reduceIte, Nat.reduceEqDiff] at er_9
                    have c_h := er_9
                    refine g_if_eq C dX11_pass_155 (tgt := 168) (by decide) (fun c_155 => ?_) (fun c_155 => ?_)
                    · try simp only [sa_ap, si_ap, reduceIte, Nat.reduceEqDiff, up_us, lg_cmp_lt, lg_cmp_gt, lg_cmp_le, lg_cmp_ge] at c_155
                      rw [c_h] at c_155
                      exact g_sub [0, 1, 2] rfl (g_toM (by (try unfold gp_4); (all_goals first | rw [if_pos c_125] | rw [if_neg c_125] | skip); (all_goals first | rw [if_pos c_141] | rw [if_neg c_141] | skip); (all_goals first | rw [if_pos c_155] | rw [if_neg c_155] | skip); all_goals first | rfl) (by (try unfold gp_4); (all_goals first | rw [if_pos c_125] | rw [if_neg c_125] | skip); (all_goals first | rw [if_pos c_141] | rw [if_neg c_141] | skip); (all_goals first | rw [if_pos c_155] | rw [if_neg c_155] | skip); all_goals first | with_reducible rfl | (simp only [kLs_1, kLs_0, kLs_app]; done)) (by (try unfold gp_4); (all_goals first | rw [if_pos c_125] | rw [if_neg c_125] | skip); (all_goals first | rw [if_pos c_141] | rw [if_neg c_141] | skip); (all_goals first | rw [if_pos c_155] | rw [if_neg c_155] | skip); all_goals first | omega | (simp only [kLs_1, kLs_0, kLs_app]; omega)) (by (try unfold gp_4); (all_goals first | rw [if_pos c_125] | rw [if_neg c_125] | skip); (all_goals first | rw [if_pos c_141] | rw [if_neg c_141] | skip); (all_goals first | rw [if_pos c_155] | rw [if_neg c_155] | skip); all_goals first | omega | (simp only [kLs_1, kLs_0, kLs_app]; omega)) j_168)
                    · try simp only [sa_ap, si_ap, reduceIte, Nat.reduceEqDiff, up_us, lg_cmp_lt, lg_cmp_gt, lg_cmp_le, lg_cmp_ge] at c_155
                      rw [c_h] at c_155
                      refine g_aload_n C dX11_pass_158 0 rfl ?_
                      refine g_dup C dX11_pass_159 rfl ?_
                      refine gf_X11_count C tw1247 dX11_pass_160 ?_
                      refine g_iconst C dX11_pass_163 (v := 1) (by decide) ?_
                      refine g_iadd C dX11_pass_164 ?_
                      refine pf_X11_count C tw1247 dX11_pass_165 ?_
                      exact g_sub [0, 1, 2] rfl (g_toM (by (try unfold gp_4); (all_goals first | rw [if_pos c_125] | rw [if_neg c_125] | skip); (all_goals first | rw [if_pos c_141] | rw [if_neg c_141] | skip); (all_goals first | rw [if_pos c_155] | rw [if_neg c_155] | skip); all_goals first | rfl) (by (try unfold gp_4); (all_goals first | rw [if_pos c_125] | rw [if_neg c_125] | skip); (all_goals first | rw [if_pos c_141] | rw [if_neg c_141] | skip); (all_goals first | rw [if_pos c_155] | rw [if_neg c_155] | skip); all_goals first | with_reducible rfl | (simp only [kLs_1, kLs_0, kLs_app]; done)) (by (try unfold gp_4); (all_goals first | rw [if_pos c_125] | rw [if_neg c_125] | skip); (all_goals first | rw [if_pos c_141] | rw [if_neg c_141] | skip); (all_goals first | rw [if_pos c_155] | rw [if_neg c_155] | skip); all_goals first | omega | (simp only [kLs_1, kLs_0, kLs_app]; omega)) (by (try unfold gp_4); (all_goals first | rw [if_pos c_125] | rw [if_neg c_125] | skip); (all_goals first | rw [if_pos c_141] | rw [if_neg c_141] | skip); (all_goals first | rw [if_pos c_155] | rw [if_neg c_155] | skip); all_goals first | omega | (simp only [kLs_1, kLs_0, kLs_app]; omega)) j_168)
                  · try simp only [sa_ap, si_ap, reduceIte, Nat.reduceEqDiff, up_us, lg_cmp_lt, lg_cmp_gt, lg_cmp_le, lg_cmp_ge] at c_141
                    refine g_aload_n C dX11_pass_144 0 rfl ?_
                    have hk1 := kq (show kLs Ki 1 (v + i) (gp_4 (v + i) z zs z5 z8 Ki (gp_3 z zs Ki (gp_2 z8 (gp_1 Mi)))).2 = kLs Ki 1 (v + i) (gf_A (gp_3 z zs Ki (gp_2 z8 (gp_1 Mi)))).2 from (by (try unfold gp_4); (all_goals first | rw [if_pos c_125] | rw [if_neg c_125] | skip); (all_goals first | rw [if_pos c_141] | rw [if_neg c_141] | skip); (all_goals first | rw [if_pos c_155] | rw [if_neg c_155] | skip); all_goals first | with_reducible rfl | (simp only [kLs_1, kLs_0, kLs_app]; done)))
                    have hl1 := kLs_le1 (v + i) (gf_A (gp_3 z zs Ki (gp_2 z8 (gp_1 Mi)))).2 Ki
                    refine g_callVvW C dX11_pass_145 (c_X11_goFlight _ _ _ _ _ _ _ _ _ (v + i) (by omega) hsi3.1 (by omega) (by omega)) tw1675 tw1677 tp36 tw16 tw1678 (rv_X11 C) rfl ⟨by decide +kernel, by decide +kernel, rfl⟩ ⟨rfl, rfl⟩ (by rw [hR]; exact ⟨Nat.le_of_ble_eq_true rfl, Nat.le_of_ble_eq_true rfl⟩) (Nat.le_of_ble_eq_true rfl) (by omega) (fun X1 M1 K1 h_11 => ?_)
                    obtain ⟨hX1, hM1, hK1⟩ := h_11
                    subst X1 M1 K1
                    refine g_goto C dX11_pass_148 (tgt := 168) (by decide) ?_
                    exact g_sub [0, 1, 2] rfl (g_toM (by (try unfold gp_4); (all_goals first | rw [if_pos c_125] | rw [if_neg c_125] | skip); (all_goals first | rw [if_pos c_141] | rw [if_neg c_141] | skip); (all_goals first | rw [if_pos c_155] | rw [if_neg c_155] | skip); all_goals first | rfl) (by (try unfold gp_4); (all_goals first | rw [if_pos c_125] | rw [if_neg c_125] | skip); (all_goals first | rw [if_pos c_141] | rw [if_neg c_141] | skip); (all_goals first | rw [if_pos c_155] | rw [if_neg c_155] | skip); all_goals first | with_reducible rfl | (simp only [kLs_1, kLs_0, kLs_app]; done)) (by (try unfold gp_4); (all_goals first | rw [if_pos c_125] | rw [if_neg c_125] | skip); (all_goals first | rw [if_pos c_141] | rw [if_neg c_141] | skip); (all_goals first | rw [if_pos c_155] | rw [if_neg c_155] | skip); all_goals first | omega | (simp only [kLs_1, kLs_0, kLs_app]; omega)) (by (try unfold gp_4); (all_goals first | rw [if_pos c_125] | rw [if_neg c_125] | skip); (all_goals first | rw [if_pos c_141] | rw [if_neg c_141] | skip); (all_goals first | rw [if_pos c_155] | rw [if_neg c_155] | skip); all_goals first | omega | (simp only [kLs_1, kLs_0, kLs_app]; omega)) j_168)
                · try simp only [sa_ap, si_ap, reduceIte, Nat.reduceEqDiff, up_us, lg_cmp_lt, lg_cmp_gt, lg_cmp_le, lg_cmp_ge] at c_125
                  rw [c_j] at c_125
                  refine g_aload_n C dX11_pass_128 0 rfl ?_
                  have hk1 := kq (show kLs Ki 1 (v + i) (gp_4 (v + i) z zs z5 z8 Ki (gp_3 z zs Ki (gp_2 z8 (gp_1 Mi)))).2 = kLs Ki 1 (v + i) (gc_A (v + i) z zs z5 z8 (gp_3 z zs Ki (gp_2 z8 (gp_1 Mi))) Ki).2 from (by (try unfold gp_4); (all_goals first | rw [if_pos c_125] | rw [if_neg c_125] | skip); (all_goals first | rw [if_pos c_141] | rw [if_neg c_141] | skip); (all_goals first | rw [if_pos c_155] | rw [if_neg c_155] | skip); all_goals first | with_reducible rfl | (simp only [kLs_1, kLs_0, kLs_app]; done)))
                  have hl1 := kLs_le1 (v + i) (gc_A (v + i) z zs z5 z8 (gp_3 z zs Ki (gp_2 z8 (gp_1 Mi))) Ki).2 Ki
                  refine g_callVvW C dX11_pass_129 (c_X11_goCount _ _ _ _ _ _ _ _ _ (v + i) z zs z5 z8 hsi3 hzl h5 h8 (by omega) (by omega) (by omega) (by omega) (by omega)) tw1667 tw1669 tp34 tw16 tw1670 (rv_X11 C) rfl ⟨by decide +kernel, by decide +kernel, rfl⟩ ⟨rfl, rfl⟩ (by rw [hR]; exact ⟨Nat.le_of_ble_eq_true rfl, Nat.le_of_ble_eq_true rfl⟩) (Nat.le_of_ble_eq_true rfl) (by omega) (fun X1 M1 K1 h_12 => ?_)
                  obtain ⟨hX1, hM1, hK1⟩ := h_12
                  subst X1 M1 K1
                  refine g_goto C dX11_pass_132 (tgt := 168) (by decide) ?_
                  exact g_sub [0, 1, 2] rfl (g_toM (by (try unfold gp_4); (all_goals first | rw [if_pos c_125] | rw [if_neg c_125] | skip); (all_goals first | rw [if_pos c_141] | rw [if_neg c_141] | skip); (all_goals first | rw [if_pos c_155] | rw [if_neg c_155] | skip); all_goals first | rfl) (by (try unfold gp_4); (all_goals first | rw [if_pos c_125] | rw [if_neg c_125] | skip); (all_goals first | rw [if_pos c_141] | rw [if_neg c_141] | skip); (all_goals first | rw [if_pos c_155] | rw [if_neg c_155] | skip); all_goals first | with_reducible rfl | (simp only [kLs_1, kLs_0, kLs_app]; done)) (by (try unfold gp_4); (all_goals first | rw [if_pos c_125] | rw [if_neg c_125] | skip); (all_goals first | rw [if_pos c_141] | rw [if_neg c_141] | skip); (all_goals first | rw [if_pos c_155] | rw [if_neg c_155] | skip); all_goals first | omega | (simp only [kLs_1, kLs_0, kLs_app]; omega)) (by (try unfold gp_4); (all_goals first | rw [if_pos c_125] | rw [if_neg c_125] | skip); (all_goals first | rw [if_pos c_141] | rw [if_neg c_141] | skip); (all_goals first | rw [if_pos c_155] | rw [if_neg c_155] | skip); all_goals first | omega | (simp only [kLs_1, kLs_0, kLs_app]; omega)) j_168)
              | succ n ih =>
                intro q hi
                have hsl := okM.l68 (gp_l (gp_2 z8 (gp_1 Mi)) Ki zs q) hsi2
                refine g_iload_n C dX11_pass_81 3 rfl ?_
                refine g_aload_n C dX11_pass_82 0 rfl ?_
                refine gf_X11_rules C tw1282 dX11_pass_83 ?_
                refine g_topi hsl.2.2.2.1 ?_
                refine g_icmp_ge C dX11_pass_86 (tgt := 121) (by decide) (fun c_86 => absurd c_86 (nI_ge (a := q) (b := z) (by omega) (by omega))) (fun c_86 => ?_)
                refine g_aload_n C dX11_pass_89 0 rfl ?_
                refine gf_X11_held C tw1288 dX11_pass_90 ?_
                refine g_iload_n C dX11_pass_93 3 rfl ?_
                refine g_aload_n C dX11_pass_94 0 rfl ?_
                refine g_iload_n C dX11_pass_95 3 rfl ?_
                refine g_callViW C dX11_pass_96 (c_X11_holdsNow _ _ _ _ _ _ _ _ _ q (by omega) (hsl.2.2.2.2.2.2.2.2.1 q (by omega)) zs hsl.2.2.2.2.1 (by omega) (by omega) hsl.2.2.2.2.2.2.2.2.2) tw1617 tw1619 tp27 tw16 tw1620 (rv_X11 C) rfl ⟨by decide +kernel, by decide +kernel, rfl⟩ ⟨rfl, rfl⟩ (by rw [hR]; exact ⟨Nat.le_of_ble_eq_true rfl, Nat.le_of_ble_eq_true rfl⟩) (Nat.le_of_ble_eq_true rfl) (by omega) (fun r_13 X1 M1 K1 h_14 => ?_)
                obtain ⟨er_13, hX1, hM1, hK1⟩ := h_14
                subst X1 M1 K1
                try simp only [sa_ap, si_ap, reduceIte, Nat.reduceEqDiff] at er_13
                have c_q : r_13 = md_hn (gp_2 z8 (gp_1 Mi)) Ki zs q := er_13.trans (md_hn_68 _ _ _ _ _)
                refine g_if_eq C dX11_pass_99 (tgt := 113) (by decide) (fun c_99 => ?_) (fun c_99 => ?_)
                · try simp only [sa_ap, si_ap, reduceIte, Nat.reduceEqDiff, up_us, lg_cmp_lt, lg_cmp_gt, lg_cmp_le, lg_cmp_ge] at c_99
                  rw [c_q] at c_99
                  refine g_iconst C dX11_pass_113 (v := 0) (by decide) ?_
                  refine as_68 C (by omega) dX11_pass_114 ?_
                  refine g_iinc C dX11_pass_115 3 rfl (v := nI (q + 1)) (nI_1 _) (L' := [(3, .int (nI (q + 1))), (0, .ref (gad G 42)), (1, .int (nI nn)), (2, .int (nI i))]) rfl (by rw [hL]; decide) ?_
                  refine g_goto C dX11_pass_118 (tgt := 81) (by decide) ?_
                  exact g_sub [1, 2, 3, 0] rfl (g_M (by first | with_reducible rfl | (subst er_1 er_13; first | with_reducible rfl | (simp only [sa_ap, si_ap, si_sa, sa_sa, sa_3, sa_4, sa_5, sa_6, sa_7, sa_8, xs_pass, gp_l, md_hn_68, gs_P, up_us, up_up, xs_b, c_15, c_cl, c_40, c_99]; done) | (simp [sa_ap, si_ap, si_sa, sa_sa, sa_3, sa_4, sa_5, sa_6, sa_7, sa_8, xs_pass, gp_l, md_hn_68, gs_P, up_us, up_up, xs_b, c_15, c_cl, c_40, c_99]; done))) (ih (q + 1) (by omega)))
                · try simp only [sa_ap, si_ap, reduceIte, Nat.reduceEqDiff, up_us, lg_cmp_lt, lg_cmp_gt, lg_cmp_le, lg_cmp_ge] at c_99
                  rw [c_q] at c_99
                  refine g_aload_n C dX11_pass_102 0 rfl ?_
                  refine gf_X11_held C tw1288 dX11_pass_103 ?_
                  refine g_iload_n C dX11_pass_106 3 rfl ?_
                  refine al_68 C (by omega) dX11_pass_107 ?_
                  refine g_iconst C dX11_pass_108 (v := 1) (by decide) ?_
                  refine g_iadd C dX11_pass_109 ?_
                  refine g_goto C dX11_pass_110 (tgt := 114) (by decide) ?_
                  refine as_68 C (by omega) dX11_pass_114 ?_
                  refine g_iinc C dX11_pass_115 3 rfl (v := nI (q + 1)) (nI_1 _) (L' := [(3, .int (nI (q + 1))), (0, .ref (gad G 42)), (1, .int (nI nn)), (2, .int (nI i))]) rfl (by rw [hL]; decide) ?_
                  refine g_goto C dX11_pass_118 (tgt := 81) (by decide) ?_
                  exact g_sub [1, 2, 3, 0] rfl (g_M (by first | with_reducible rfl | (subst er_1 er_13; first | with_reducible rfl | (simp only [sa_ap, si_ap, si_sa, sa_sa, sa_3, sa_4, sa_5, sa_6, sa_7, sa_8, xs_pass, gp_l, md_hn_68, gs_P, up_us, up_up, xs_b, c_15, c_cl, c_40, c_99]; done) | (simp [sa_ap, si_ap, si_sa, sa_sa, sa_3, sa_4, sa_5, sa_6, sa_7, sa_8, xs_pass, gp_l, md_hn_68, gs_P, up_us, up_up, xs_b, c_15, c_cl, c_40, c_99]; done))) (ih (q + 1) (by omega)))
            exact g_sub [1, 2, 3, 0] rfl (g_M (sa_self _ 68).symm (lp81 (z) 0 (by omega)))
          refine g_iload_n C dX11_pass_59 2 rfl ?_
          refine g_iload_n C dX11_pass_60 1 rfl ?_
          refine g_icmp_ge C dX11_pass_61 (tgt := 184) (by decide) (fun c_61 => absurd c_61 (nI_ge (a := i) (b := nn) (by omega) (by omega))) (fun c_61 => ?_)
          refine g_aload_n C dX11_pass_64 0 rfl ?_
          refine g_callVvW C dX11_pass_65 (c_X11_goTanks _ _ _ _ _ _ _ _ _ ) tw1655 tw1657 tp31 tw16 tw1658 (rv_X11 C) rfl ⟨by decide +kernel, by decide +kernel, rfl⟩ ⟨rfl, rfl⟩ (by rw [hR]; exact ⟨Nat.le_of_ble_eq_true rfl, Nat.le_of_ble_eq_true rfl⟩) (Nat.le_of_ble_eq_true rfl) (by omega) (fun X1 M1 K1 h_15 => ?_)
          obtain ⟨hX1, hM1, hK1⟩ := h_15
          subst X1 M1 K1
          refine g_M (M' := gp_1 Mi) rfl ?_
          refine g_aload_n C dX11_pass_68 0 rfl ?_
          refine g_callViW C dX11_pass_69 (c_X11_isCounting _ _ _ _ _ _ _ _ _ ) tw1436 tw1438 tp15 tw16 tw1439 (rv_X11 C) rfl ⟨by decide +kernel, by decide +kernel, rfl⟩ ⟨rfl, rfl⟩ (by rw [hR]; exact ⟨Nat.le_of_ble_eq_true rfl, Nat.le_of_ble_eq_true rfl⟩) (Nat.le_of_ble_eq_true rfl) (by omega) (fun r_16 X1 M1 K1 h_17 => ?_)
          obtain ⟨er_16, hX1, hM1, hK1⟩ := h_17
          subst X1 M1 K1
          try simp only [sa_ap, si_ap, reduceIte, Nat.reduceEqDiff] at er_16
          have c_i : r_16 = md_ic (Mi 102 0) := er_16
          refine g_if_eq C dX11_pass_72 (tgt := 79) (by decide) (fun c_72 => ?_) (fun c_72 => ?_)
          · try simp only [sa_ap, si_ap, reduceIte, Nat.reduceEqDiff, up_us, lg_cmp_lt, lg_cmp_gt, lg_cmp_le, lg_cmp_ge] at c_72
            rw [c_i] at c_72
            exact g_sub [0, 1, 2] rfl (g_toM (by first | exact (if_pos c_72).symm | exact (if_neg c_72).symm) rfl (by omega) (by omega) j_79)
          · try simp only [sa_ap, si_ap, reduceIte, Nat.reduceEqDiff, up_us, lg_cmp_lt, lg_cmp_gt, lg_cmp_le, lg_cmp_ge] at c_72
            rw [c_i] at c_72
            refine g_aload_n C dX11_pass_75 0 rfl ?_
            refine g_callVvW C dX11_pass_76 (c_X11_goSteps _ _ _ _ _ _ _ _ _ z8 hsi.2.1 h8) tw1659 tw1661 tp32 tw16 tw1662 (rv_X11 C) rfl ⟨by decide +kernel, by decide +kernel, rfl⟩ ⟨rfl, rfl⟩ (by rw [hR]; exact ⟨Nat.le_of_ble_eq_true rfl, Nat.le_of_ble_eq_true rfl⟩) (Nat.le_of_ble_eq_true rfl) (by omega) (fun X1 M1 K1 h_18 => ?_)
            obtain ⟨hX1, hM1, hK1⟩ := h_18
            subst X1 M1 K1
            exact g_sub [0, 1, 2] rfl (g_toM (by first | exact (if_pos c_72).symm | exact (if_neg c_72).symm) rfl (by omega) (by omega) j_79)
      exact g_sub [1, 2, 0] rfl (g_toM rfl rfl (by show _ = K.2.1 5 - K.2.1 5; omega) (by show _ = K.2.1 7 - K.2.1 7; omega) (lp59 (nn) 0 (by omega)))
    · try simp only [sa_ap, si_ap, reduceIte, Nat.reduceEqDiff, up_us, lg_cmp_lt, lg_cmp_gt, lg_cmp_le, lg_cmp_ge] at c_40
      refine g_iconst C dX11_pass_43 (v := 1) (by decide) ?_
      refine g_goto C dX11_pass_44 (tgt := 48) (by decide) ?_
      refine g_iconst C dX11_pass_48 (v := 2) (by decide) ?_
      refine g_callViW C dX11_pass_49 (c_X11_fails_1 _ _ _ _ _ _ _ _ _ _ (by rfl) (by decide)) tw1412 tw1414 tp14 tw16 tw1415 (rv_X11 C) rfl ⟨by decide +kernel, by decide +kernel, rfl⟩ ⟨rfl, rfl⟩ (by rw [hR]; exact ⟨Nat.le_of_ble_eq_true rfl, Nat.le_of_ble_eq_true rfl⟩) (Nat.le_of_ble_eq_true rfl) (by omega) (fun r_19 X1 M1 K1 h_20 => ?_)
      obtain ⟨rfl, hX1, hM1, hK1⟩ := h_20
      subst X1 M1 K1
      refine g_if_eq C dX11_pass_52 (tgt := 57) (by decide) (fun c_52 => absurd c_52 (by decide)) (fun c_52 => ?_)
      refine g_iconst C dX11_pass_55 (v := 0) (by decide) ?_
      refine g_iretW C hr hQ (by omega) (by omega) dX11_pass_56 ?_
      exact ⟨(by first | with_reducible rfl | (subst er_1; first | with_reducible rfl | (simp only [sa_ap, si_ap, si_sa, sa_sa, sa_3, sa_4, sa_5, sa_6, sa_7, sa_8, xs_pass, gp_l, md_hn_68, gs_P, up_us, up_up, xs_b, c_15, c_cl, c_40]; done) | (simp [sa_ap, si_ap, si_sa, sa_sa, sa_3, sa_4, sa_5, sa_6, sa_7, sa_8, xs_pass, gp_l, md_hn_68, gs_P, up_us, up_up, xs_b, c_15, c_cl, c_40]; done))), rfl, (by first | with_reducible rfl | (subst er_1; first | with_reducible rfl | (simp only [sa_ap, si_ap, si_sa, sa_sa, sa_3, sa_4, sa_5, sa_6, sa_7, sa_8, xs_pass, gp_l, md_hn_68, gs_P, up_us, up_up, xs_b, c_15, c_cl, c_40]; done) | (simp [sa_ap, si_ap, si_sa, sa_sa, sa_3, sa_4, sa_5, sa_6, sa_7, sa_8, xs_pass, gp_l, md_hn_68, gs_P, up_us, up_up, xs_b, c_15, c_cl, c_40]; done))), (by first | with_reducible rfl | (subst er_1; first | with_reducible rfl | (simp only [sa_ap, si_ap, si_sa, sa_sa, sa_3, sa_4, sa_5, sa_6, sa_7, sa_8, xs_pass, gp_l, md_hn_68, gs_P, up_us, up_up, xs_b, c_15, c_cl, c_40]; done) | (simp [sa_ap, si_ap, si_sa, sa_sa, sa_3, sa_4, sa_5, sa_6, sa_7, sa_8, xs_pass, gp_l, md_hn_68, gs_P, up_us, up_up, xs_b, c_15, c_cl, c_40]; done)))⟩
  · try simp only [sa_ap, si_ap, reduceIte, Nat.reduceEqDiff, up_us, lg_cmp_lt, lg_cmp_gt, lg_cmp_le, lg_cmp_ge] at c_15
    rw [c_n] at c_15
    refine g_iconst C dX11_pass_18 (v := 1) (by decide) ?_
    refine g_goto C dX11_pass_19 (tgt := 23) (by decide) ?_
    refine g_iconst C dX11_pass_23 (v := 1) (by decide) ?_
    refine g_callViW C dX11_pass_24 (c_X11_fails_1 _ _ _ _ _ _ _ _ _ _ (by rfl) (by decide)) tw1412 tw1414 tp14 tw16 tw1415 (rv_X11 C) rfl ⟨by decide +kernel, by decide +kernel, rfl⟩ ⟨rfl, rfl⟩ (by rw [hR]; exact ⟨Nat.le_of_ble_eq_true rfl, Nat.le_of_ble_eq_true rfl⟩) (Nat.le_of_ble_eq_true rfl) (by omega) (fun r_21 X1 M1 K1 h_22 => ?_)
    obtain ⟨rfl, hX1, hM1, hK1⟩ := h_22
    subst X1 M1 K1
    refine g_if_ne C dX11_pass_27 (tgt := 55) (by decide) (fun c_27 => ?_) (fun c_27 => absurd c_27 (by decide))
    refine g_iconst C dX11_pass_55 (v := 0) (by decide) ?_
    refine g_iretW C hr hQ (by omega) (by omega) dX11_pass_56 ?_
    exact ⟨(by first | with_reducible rfl | (subst er_1; first | with_reducible rfl | (simp only [sa_ap, si_ap, si_sa, sa_sa, sa_3, sa_4, sa_5, sa_6, sa_7, sa_8, xs_pass, gp_l, md_hn_68, gs_P, up_us, up_up, xs_b, c_15]; done) | (simp [sa_ap, si_ap, si_sa, sa_sa, sa_3, sa_4, sa_5, sa_6, sa_7, sa_8, xs_pass, gp_l, md_hn_68, gs_P, up_us, up_up, xs_b, c_15]; done))), rfl, (by first | with_reducible rfl | (subst er_1; first | with_reducible rfl | (simp only [sa_ap, si_ap, si_sa, sa_sa, sa_3, sa_4, sa_5, sa_6, sa_7, sa_8, xs_pass, gp_l, md_hn_68, gs_P, up_us, up_up, xs_b, c_15]; done) | (simp [sa_ap, si_ap, si_sa, sa_sa, sa_3, sa_4, sa_5, sa_6, sa_7, sa_8, xs_pass, gp_l, md_hn_68, gs_P, up_us, up_up, xs_b, c_15]; done))), (by first | with_reducible rfl | (subst er_1; first | with_reducible rfl | (simp only [sa_ap, si_ap, si_sa, sa_sa, sa_3, sa_4, sa_5, sa_6, sa_7, sa_8, xs_pass, gp_l, md_hn_68, gs_P, up_us, up_up, xs_b, c_15]; done) | (simp [sa_ap, si_ap, si_sa, sa_sa, sa_3, sa_4, sa_5, sa_6, sa_7, sa_8, xs_pass, gp_l, md_hn_68, gs_P, up_us, up_up, xs_b, c_15]; done)))⟩

set_option maxHeartbeats 400000 in
set_option maxRecDepth 100000 in
/-- begin.begin -/
theorem c_X11_begin (l : Launch) (D : va_G) (cy : Nat → ClassId) (A : Nat → Prop) (ad sad : Nat → Nat) (X M : XF) (K : KF) (p1 p2 p3 : Int32) (z8 : Nat) (hz8 : M 113 0 = nI z8) (h8 : z8 ≤ 16) (v : Nat) (hv : v < 999999) (hv0 : M 101 0 = nI v) (h16 : 16 ≤ K.2.1 1) (hcap : (kLs (mb_K M K p2 p3) 1 v [67]).2.1 1 < 2 ^ 26) : Met l yX11_begin (wsA yX11_begin cX11_begin 5 (some .int)) ({ frames := 7, cells := (kLs (mb_K M K p2 p3) 1 v [67]).2.1 5 - K.2.1 5, slots := (kLs (mb_K M K p2 p3) 1 v [67]).2.1 7 - K.2.1 7, locals := 211 }) (PcW D cy A ad sad X M K [.ref (ad 42), .int p1, .int p2, .int p3]) (QiW D cy A ad (fun r X1 M1 K1 => r = (if xs_begin (M 102 0) p1 p2 p3 = 0 then M 101 0 - p1 else 0) ∧ X1 = X ∧ M1 = (if xs_begin (M 102 0) p1 p2 p3 = 0 then mb_M z8 p1 M else si M 100 (xs_begin (M 102 0) p1 p2 p3)) ∧ K1 = (if xs_begin (M 102 0) p1 p2 p3 = 0 then kLs (mb_K M K p2 p3) 1 v [67] else K))) ((kLs (mb_K M K p2 p3) 1 v [67]).2.1 5 - K.2.1 5) ((kLs (mb_K M K p2 p3) 1 v [67]).2.1 7 - K.2.1 7) A := by
  refine met_ofW [(0, .ref (ad 42)), (1, .int p1), (2, .int p2), (3, .int p3)] (by decide +kernel) (Nat.le_of_ble_eq_true rfl) rfl ?_
  intro G C hl hR hL hD hcy hA had hsa hr hQ
  subst hD hcy hA had hsa hl
  have hrc : (gR G).cells = (kLs (mb_K M K p2 p3) 1 v [67]).2.1 5 - K.2.1 5 := by rw [hR]
  have hrs : (gR G).slots = (kLs (mb_K M K p2 p3) 1 v [67]).2.1 7 - K.2.1 7 := by rw [hR]
  refine g_aload_n C dX11_begin_0 0 rfl ?_
  refine g_iconst C dX11_begin_1 (v := 0) (by decide) ?_
  refine pf_X11_thrown C tw1243 dX11_begin_2 ?_
  refine g_aload_n C dX11_begin_5 0 rfl ?_
  refine g_iload_n C dX11_begin_6 1 rfl ?_
  refine g_i2l C dX11_begin_7 ?_
  refine g_ldc2 C dX11_begin_8 tw1433 ?_
  refine g_ldc2 C dX11_begin_11 tw1625 ?_
  refine g_callSiW C dX11_begin_14 (c_X11_in _ _ _ _ _ _ _ _ _ _ _ _) tw1406 tw1407 tw16 tw1408 rfl ⟨by decide +kernel, by decide +kernel, rfl⟩ ⟨rfl, rfl⟩ (by rw [hR]; exact ⟨Nat.le_of_ble_eq_true rfl, Nat.le_of_ble_eq_true rfl⟩) (Nat.le_of_ble_eq_true rfl) (by omega) (fun r_1 X1 M1 K1 h_2 => ?_)
  obtain ⟨er_1, hX1, hM1, hK1⟩ := h_2
  subst X1 M1 K1
  try simp only [sa_ap, si_ap, reduceIte, Nat.reduceEqDiff] at er_1
  refine g_if_eq C dX11_begin_17 (tgt := 45) (by decide) (fun c_17 => ?_) (fun c_17 => ?_)
  · try simp only [sa_ap, si_ap, reduceIte, Nat.reduceEqDiff, up_us, lg_cmp_lt, lg_cmp_gt, lg_cmp_le, lg_cmp_ge] at c_17
    refine g_iconst C dX11_begin_45 (v := 1) (by decide) ?_
    refine g_goto C dX11_begin_46 (tgt := 50) (by decide) ?_
    refine g_iconst C dX11_begin_50 (v := 1) (by decide) ?_
    refine g_callViW C dX11_begin_51 (c_X11_fails_1 _ _ _ _ _ _ _ _ _ _ (by rfl) (by decide)) tw1412 tw1414 tp14 tw16 tw1415 (rv_X11 C) rfl ⟨by decide +kernel, by decide +kernel, rfl⟩ ⟨rfl, rfl⟩ (by rw [hR]; exact ⟨Nat.le_of_ble_eq_true rfl, Nat.le_of_ble_eq_true rfl⟩) (Nat.le_of_ble_eq_true rfl) (by omega) (fun r_3 X1 M1 K1 h_4 => ?_)
    obtain ⟨rfl, hX1, hM1, hK1⟩ := h_4
    subst X1 M1 K1
    refine g_if_ne C dX11_begin_54 (tgt := 84) (by decide) (fun c_54 => ?_) (fun c_54 => absurd c_54 (by decide))
    refine g_iconst C dX11_begin_84 (v := 0) (by decide) ?_
    refine g_iretW C hr hQ (by omega) (by omega) dX11_begin_85 ?_
    exact ⟨(by first | with_reducible rfl | (subst er_1; first | with_reducible rfl | (simp only [sa_ap, si_ap, si_sa, sa_sa, sa_3, sa_4, sa_5, sa_6, sa_7, sa_8, xs_begin, xs_go, mb_M, mb_K, ms_ag, kLs, up_us, up_up, xs_b, c_17]; done) | (simp [sa_ap, si_ap, si_sa, sa_sa, sa_3, sa_4, sa_5, sa_6, sa_7, sa_8, xs_begin, xs_go, mb_M, mb_K, ms_ag, kLs, up_us, up_up, xs_b, c_17]; done))), rfl, (by first | with_reducible rfl | (subst er_1; first | with_reducible rfl | (simp only [sa_ap, si_ap, si_sa, sa_sa, sa_3, sa_4, sa_5, sa_6, sa_7, sa_8, xs_begin, xs_go, mb_M, mb_K, ms_ag, kLs, up_us, up_up, xs_b, c_17]; done) | (simp [sa_ap, si_ap, si_sa, sa_sa, sa_3, sa_4, sa_5, sa_6, sa_7, sa_8, xs_begin, xs_go, mb_M, mb_K, ms_ag, kLs, up_us, up_up, xs_b, c_17]; done))), (by first | with_reducible rfl | (subst er_1; first | with_reducible rfl | (simp only [sa_ap, si_ap, si_sa, sa_sa, sa_3, sa_4, sa_5, sa_6, sa_7, sa_8, xs_begin, xs_go, mb_M, mb_K, ms_ag, kLs, up_us, up_up, xs_b, c_17]; done) | (simp [sa_ap, si_ap, si_sa, sa_sa, sa_3, sa_4, sa_5, sa_6, sa_7, sa_8, xs_begin, xs_go, mb_M, mb_K, ms_ag, kLs, up_us, up_up, xs_b, c_17]; done)))⟩
  · try simp only [sa_ap, si_ap, reduceIte, Nat.reduceEqDiff, up_us, lg_cmp_lt, lg_cmp_gt, lg_cmp_le, lg_cmp_ge] at c_17
    refine g_iload_n C dX11_begin_20 2 rfl ?_
    refine g_i2l C dX11_begin_21 ?_
    refine g_lconst C dX11_begin_22 (v := 0) (by decide) ?_
    refine g_ldc2 C dX11_begin_23 tw1626 ?_
    refine g_callSiW C dX11_begin_26 (c_X11_in _ _ _ _ _ _ _ _ _ _ _ _) tw1406 tw1407 tw16 tw1408 rfl ⟨by decide +kernel, by decide +kernel, rfl⟩ ⟨rfl, rfl⟩ (by rw [hR]; exact ⟨Nat.le_of_ble_eq_true rfl, Nat.le_of_ble_eq_true rfl⟩) (Nat.le_of_ble_eq_true rfl) (by omega) (fun r_5 X1 M1 K1 h_6 => ?_)
    obtain ⟨er_5, hX1, hM1, hK1⟩ := h_6
    subst X1 M1 K1
    try simp only [sa_ap, si_ap, reduceIte, Nat.reduceEqDiff] at er_5
    refine g_if_eq C dX11_begin_29 (tgt := 45) (by decide) (fun c_29 => ?_) (fun c_29 => ?_)
    · try simp only [sa_ap, si_ap, reduceIte, Nat.reduceEqDiff, up_us, lg_cmp_lt, lg_cmp_gt, lg_cmp_le, lg_cmp_ge] at c_29
      refine g_iconst C dX11_begin_45 (v := 1) (by decide) ?_
      refine g_goto C dX11_begin_46 (tgt := 50) (by decide) ?_
      refine g_iconst C dX11_begin_50 (v := 1) (by decide) ?_
      refine g_callViW C dX11_begin_51 (c_X11_fails_1 _ _ _ _ _ _ _ _ _ _ (by rfl) (by decide)) tw1412 tw1414 tp14 tw16 tw1415 (rv_X11 C) rfl ⟨by decide +kernel, by decide +kernel, rfl⟩ ⟨rfl, rfl⟩ (by rw [hR]; exact ⟨Nat.le_of_ble_eq_true rfl, Nat.le_of_ble_eq_true rfl⟩) (Nat.le_of_ble_eq_true rfl) (by omega) (fun r_7 X1 M1 K1 h_8 => ?_)
      obtain ⟨rfl, hX1, hM1, hK1⟩ := h_8
      subst X1 M1 K1
      refine g_if_ne C dX11_begin_54 (tgt := 84) (by decide) (fun c_54 => ?_) (fun c_54 => absurd c_54 (by decide))
      refine g_iconst C dX11_begin_84 (v := 0) (by decide) ?_
      refine g_iretW C hr hQ (by omega) (by omega) dX11_begin_85 ?_
      exact ⟨(by first | with_reducible rfl | (subst er_1 er_5; first | with_reducible rfl | (simp only [sa_ap, si_ap, si_sa, sa_sa, sa_3, sa_4, sa_5, sa_6, sa_7, sa_8, xs_begin, xs_go, mb_M, mb_K, ms_ag, kLs, up_us, up_up, xs_b, c_17, c_29]; done) | (simp [sa_ap, si_ap, si_sa, sa_sa, sa_3, sa_4, sa_5, sa_6, sa_7, sa_8, xs_begin, xs_go, mb_M, mb_K, ms_ag, kLs, up_us, up_up, xs_b, c_17, c_29]; done))), rfl, (by first | with_reducible rfl | (subst er_1 er_5; first | with_reducible rfl | (simp only [sa_ap, si_ap, si_sa, sa_sa, sa_3, sa_4, sa_5, sa_6, sa_7, sa_8, xs_begin, xs_go, mb_M, mb_K, ms_ag, kLs, up_us, up_up, xs_b, c_17, c_29]; done) | (simp [sa_ap, si_ap, si_sa, sa_sa, sa_3, sa_4, sa_5, sa_6, sa_7, sa_8, xs_begin, xs_go, mb_M, mb_K, ms_ag, kLs, up_us, up_up, xs_b, c_17, c_29]; done))), (by first | with_reducible rfl | (subst er_1 er_5; first | with_reducible rfl | (simp only [sa_ap, si_ap, si_sa, sa_sa, sa_3, sa_4, sa_5, sa_6, sa_7, sa_8, xs_begin, xs_go, mb_M, mb_K, ms_ag, kLs, up_us, up_up, xs_b, c_17, c_29]; done) | (simp [sa_ap, si_ap, si_sa, sa_sa, sa_3, sa_4, sa_5, sa_6, sa_7, sa_8, xs_begin, xs_go, mb_M, mb_K, ms_ag, kLs, up_us, up_up, xs_b, c_17, c_29]; done)))⟩
    · try simp only [sa_ap, si_ap, reduceIte, Nat.reduceEqDiff, up_us, lg_cmp_lt, lg_cmp_gt, lg_cmp_le, lg_cmp_ge] at c_29
      refine g_iload_n C dX11_begin_32 3 rfl ?_
      refine g_i2l C dX11_begin_33 ?_
      refine g_iload_n C dX11_begin_34 2 rfl ?_
      refine g_i2l C dX11_begin_35 ?_
      refine g_ldc2 C dX11_begin_36 tw1626 ?_
      refine g_callSiW C dX11_begin_39 (c_X11_in _ _ _ _ _ _ _ _ _ _ _ _) tw1406 tw1407 tw16 tw1408 rfl ⟨by decide +kernel, by decide +kernel, rfl⟩ ⟨rfl, rfl⟩ (by rw [hR]; exact ⟨Nat.le_of_ble_eq_true rfl, Nat.le_of_ble_eq_true rfl⟩) (Nat.le_of_ble_eq_true rfl) (by omega) (fun r_9 X1 M1 K1 h_10 => ?_)
      obtain ⟨er_9, hX1, hM1, hK1⟩ := h_10
      subst X1 M1 K1
      try simp only [sa_ap, si_ap, reduceIte, Nat.reduceEqDiff] at er_9
      refine g_if_ne C dX11_begin_42 (tgt := 49) (by decide) (fun c_42 => ?_) (fun c_42 => ?_)
      · try simp only [sa_ap, si_ap, reduceIte, Nat.reduceEqDiff, up_us, lg_cmp_lt, lg_cmp_gt, lg_cmp_le, lg_cmp_ge] at c_42
        refine g_iconst C dX11_begin_49 (v := 0) (by decide) ?_
        refine g_iconst C dX11_begin_50 (v := 1) (by decide) ?_
        refine g_callViW C dX11_begin_51 (c_X11_fails_0 _ _ _ _ _ _ _ _ _ _ (by rfl)) tw1412 tw1414 tp14 tw16 tw1415 (rv_X11 C) rfl ⟨by decide +kernel, by decide +kernel, rfl⟩ ⟨rfl, rfl⟩ (by rw [hR]; exact ⟨Nat.le_of_ble_eq_true rfl, Nat.le_of_ble_eq_true rfl⟩) (Nat.le_of_ble_eq_true rfl) (by omega) (fun r_11 X1 M1 K1 h_12 => ?_)
        obtain ⟨rfl, hX1, hM1, hK1⟩ := h_12
        subst X1 M1 K1
        refine g_if_ne C dX11_begin_54 (tgt := 84) (by decide) (fun c_54 => absurd c_54 (by decide)) (fun c_54 => ?_)
        refine g_aload_n C dX11_begin_57 0 rfl ?_
        refine g_aload_n C dX11_begin_58 0 rfl ?_
        refine g_callViW C dX11_begin_59 (c_X11_isCounting _ _ _ _ _ _ _ _ _ ) tw1436 tw1438 tp15 tw16 tw1439 (rv_X11 C) rfl ⟨by decide +kernel, by decide +kernel, rfl⟩ ⟨rfl, rfl⟩ (by rw [hR]; exact ⟨Nat.le_of_ble_eq_true rfl, Nat.le_of_ble_eq_true rfl⟩) (Nat.le_of_ble_eq_true rfl) (by omega) (fun r_13 X1 M1 K1 h_14 => ?_)
        obtain ⟨er_13, hX1, hM1, hK1⟩ := h_14
        subst X1 M1 K1
        try simp only [sa_ap, si_ap, reduceIte, Nat.reduceEqDiff] at er_13
        refine g_if_ne C dX11_begin_62 (tgt := 72) (by decide) (fun c_62 => ?_) (fun c_62 => ?_)
        · try simp only [sa_ap, si_ap, reduceIte, Nat.reduceEqDiff, up_us, lg_cmp_lt, lg_cmp_gt, lg_cmp_le, lg_cmp_ge] at c_62
          refine g_iconst C dX11_begin_72 (v := 1) (by decide) ?_
          refine g_goto C dX11_begin_73 (tgt := 77) (by decide) ?_
          refine g_iconst C dX11_begin_77 (v := 2) (by decide) ?_
          refine g_callViW C dX11_begin_78 (c_X11_fails_1 _ _ _ _ _ _ _ _ _ _ (by rfl) (by decide)) tw1412 tw1414 tp14 tw16 tw1415 (rv_X11 C) rfl ⟨by decide +kernel, by decide +kernel, rfl⟩ ⟨rfl, rfl⟩ (by rw [hR]; exact ⟨Nat.le_of_ble_eq_true rfl, Nat.le_of_ble_eq_true rfl⟩) (Nat.le_of_ble_eq_true rfl) (by omega) (fun r_15 X1 M1 K1 h_16 => ?_)
          obtain ⟨rfl, hX1, hM1, hK1⟩ := h_16
          subst X1 M1 K1
          refine g_if_eq C dX11_begin_81 (tgt := 86) (by decide) (fun c_81 => absurd c_81 (by decide)) (fun c_81 => ?_)
          refine g_iconst C dX11_begin_84 (v := 0) (by decide) ?_
          refine g_iretW C hr hQ (by omega) (by omega) dX11_begin_85 ?_
          exact ⟨(by first | with_reducible rfl | (subst er_1 er_5 er_9 er_13; first | with_reducible rfl | (simp only [sa_ap, si_ap, si_sa, sa_sa, sa_3, sa_4, sa_5, sa_6, sa_7, sa_8, xs_begin, xs_go, mb_M, mb_K, ms_ag, kLs, up_us, up_up, xs_b, c_17, c_29, c_42, c_62]; done) | (simp [sa_ap, si_ap, si_sa, sa_sa, sa_3, sa_4, sa_5, sa_6, sa_7, sa_8, xs_begin, xs_go, mb_M, mb_K, ms_ag, kLs, up_us, up_up, xs_b, c_17, c_29, c_42, c_62]; done))), rfl, (by first | with_reducible rfl | (subst er_1 er_5 er_9 er_13; first | with_reducible rfl | (simp only [sa_ap, si_ap, si_sa, sa_sa, sa_3, sa_4, sa_5, sa_6, sa_7, sa_8, xs_begin, xs_go, mb_M, mb_K, ms_ag, kLs, up_us, up_up, xs_b, c_17, c_29, c_42, c_62]; done) | (simp [sa_ap, si_ap, si_sa, sa_sa, sa_3, sa_4, sa_5, sa_6, sa_7, sa_8, xs_begin, xs_go, mb_M, mb_K, ms_ag, kLs, up_us, up_up, xs_b, c_17, c_29, c_42, c_62]; done))), (by first | with_reducible rfl | (subst er_1 er_5 er_9 er_13; first | with_reducible rfl | (simp only [sa_ap, si_ap, si_sa, sa_sa, sa_3, sa_4, sa_5, sa_6, sa_7, sa_8, xs_begin, xs_go, mb_M, mb_K, ms_ag, kLs, up_us, up_up, xs_b, c_17, c_29, c_42, c_62]; done) | (simp [sa_ap, si_ap, si_sa, sa_sa, sa_3, sa_4, sa_5, sa_6, sa_7, sa_8, xs_begin, xs_go, mb_M, mb_K, ms_ag, kLs, up_us, up_up, xs_b, c_17, c_29, c_42, c_62]; done)))⟩
        · try simp only [sa_ap, si_ap, reduceIte, Nat.reduceEqDiff, up_us, lg_cmp_lt, lg_cmp_gt, lg_cmp_le, lg_cmp_ge] at c_62
          refine g_aload_n C dX11_begin_65 0 rfl ?_
          refine g_callViW C dX11_begin_66 (c_X11_hasLeft _ _ _ _ _ _ _ _ _ ) tw1440 tw1442 tp16 tw16 tw1443 (rv_X11 C) rfl ⟨by decide +kernel, by decide +kernel, rfl⟩ ⟨rfl, rfl⟩ (by rw [hR]; exact ⟨Nat.le_of_ble_eq_true rfl, Nat.le_of_ble_eq_true rfl⟩) (Nat.le_of_ble_eq_true rfl) (by omega) (fun r_17 X1 M1 K1 h_18 => ?_)
          obtain ⟨er_17, hX1, hM1, hK1⟩ := h_18
          subst X1 M1 K1
          try simp only [sa_ap, si_ap, reduceIte, Nat.reduceEqDiff] at er_17
          refine g_if_eq C dX11_begin_69 (tgt := 76) (by decide) (fun c_69 => ?_) (fun c_69 => ?_)
          · try simp only [sa_ap, si_ap, reduceIte, Nat.reduceEqDiff, up_us, lg_cmp_lt, lg_cmp_gt, lg_cmp_le, lg_cmp_ge] at c_69
            refine g_iconst C dX11_begin_76 (v := 0) (by decide) ?_
            refine g_iconst C dX11_begin_77 (v := 2) (by decide) ?_
            refine g_callViW C dX11_begin_78 (c_X11_fails_0 _ _ _ _ _ _ _ _ _ _ (by rfl)) tw1412 tw1414 tp14 tw16 tw1415 (rv_X11 C) rfl ⟨by decide +kernel, by decide +kernel, rfl⟩ ⟨rfl, rfl⟩ (by rw [hR]; exact ⟨Nat.le_of_ble_eq_true rfl, Nat.le_of_ble_eq_true rfl⟩) (Nat.le_of_ble_eq_true rfl) (by omega) (fun r_19 X1 M1 K1 h_20 => ?_)
            obtain ⟨rfl, hX1, hM1, hK1⟩ := h_20
            subst X1 M1 K1
            refine g_if_eq C dX11_begin_81 (tgt := 86) (by decide) (fun c_81 => ?_) (fun c_81 => absurd (by decide) c_81)
            refine g_aload_n C dX11_begin_86 0 rfl ?_
            refine g_iconst C dX11_begin_87 (v := 1) (by decide) ?_
            refine pf_X11_wasBegun C (by first | exact isBo_0 | exact isBo_1 | assumption) tw1246 dX11_begin_88 ?_
            refine g_aload_n C dX11_begin_91 0 rfl ?_
            refine g_bipush C dX11_begin_92 (v := 99) (by decide) ?_
            refine pf_X11_state C ⟨by decide, by decide⟩ tw1245 dX11_begin_94 ?_
            refine g_aload_n C dX11_begin_97 0 rfl ?_
            refine g_iload_n C dX11_begin_98 1 rfl ?_
            refine pf_X11_count C tw1247 dX11_begin_99 ?_
            refine g_aload_n C dX11_begin_102 0 rfl ?_
            refine g_aload_n C dX11_begin_103 0 rfl ?_
            refine gf_X11_second C tw1244 dX11_begin_104 ?_
            refine g_i2l C dX11_begin_107 ?_
            refine g_iload_n C dX11_begin_108 2 rfl ?_
            refine g_i2l C dX11_begin_109 ?_
            refine g_ladd C dX11_begin_110 ?_
            refine pf_X11_opens C tw1248 dX11_begin_111 ?_
            refine g_aload_n C dX11_begin_114 0 rfl ?_
            refine g_aload_n C dX11_begin_115 0 rfl ?_
            refine gf_X11_second C tw1244 dX11_begin_116 ?_
            refine g_i2l C dX11_begin_119 ?_
            refine g_iload_n C dX11_begin_120 3 rfl ?_
            refine g_i2l C dX11_begin_121 ?_
            refine g_ladd C dX11_begin_122 ?_
            refine pf_X11_shuts C tw1249 dX11_begin_123 ?_
            refine g_aload_n C dX11_begin_126 0 rfl ?_
            refine g_iconst C dX11_begin_127 (v := 0) (by decide) ?_
            refine pf_X11_holds C tw1250 dX11_begin_128 ?_
            refine g_aload_n C dX11_begin_131 0 rfl ?_
            refine g_iconst C dX11_begin_132 (v := 0) (by decide) ?_
            refine pf_X11_stayed C tw1251 dX11_begin_133 ?_
            refine g_aload_n C dX11_begin_136 0 rfl ?_
            refine g_iconst C dX11_begin_137 (v := 0) (by decide) ?_
            refine pf_X11_cause C ⟨by decide, by decide⟩ tw1252 dX11_begin_138 ?_
            refine g_aload_n C dX11_begin_141 0 rfl ?_
            refine g_iconst C dX11_begin_142 (v := (-1)) (by decide) ?_
            refine pf_X11_causeRule C tw1253 dX11_begin_143 ?_
            refine g_aload_n C dX11_begin_146 0 rfl ?_
            refine g_iconst C dX11_begin_147 (v := 0) (by decide) ?_
            refine pf_X11_firstCause C ⟨by decide, by decide⟩ tw1254 dX11_begin_148 ?_
            refine g_aload_n C dX11_begin_151 0 rfl ?_
            refine g_iconst C dX11_begin_152 (v := (-1)) (by decide) ?_
            refine pf_X11_firstRule C tw1255 dX11_begin_153 ?_
            refine g_aload_n C dX11_begin_156 0 rfl ?_
            refine g_callVvW C dX11_begin_157 (c_X11_endWaivers _ _ _ _ _ _ _ _ _ ) tw1627 tw1629 tp28 tw16 tw1630 (rv_X11 C) rfl ⟨by decide +kernel, by decide +kernel, rfl⟩ ⟨rfl, rfl⟩ (by rw [hR]; exact ⟨Nat.le_of_ble_eq_true rfl, Nat.le_of_ble_eq_true rfl⟩) (Nat.le_of_ble_eq_true rfl) (by omega) (fun X1 M1 K1 h_21 => ?_)
            obtain ⟨hX1, hM1, hK1⟩ := h_21
            subst X1 M1 K1
            refine g_iconst C dX11_begin_160 (v := 0) (by decide) ?_
            refine g_istore C dX11_begin_161 (L' := [(4, .int 0), (0, .ref (gad G 42)), (1, .int p1), (2, .int p2), (3, .int p3)]) rfl (by rw [hL]; decide) ?_
            have lp163 : ∀ (n i : Nat) (hi : i + n = z8), GH G (WX G X (sa (sa (si (si (si (si (si (si (si (si (si (si M 100 0) 103 1) 102 99) 104 p1) 105 0) 106 0) 107 0) 108 (-1)) 109 0) 110 (-1)) 69 (md_end (M 69) 12)) 51 (ms_ag (M 51) i)) (mb_K M K p2 p3)) [(0, .ref (gad G 42)), (1, .int p1), (4, .int (nI i))] 0 0 163 [] := by
              intro n
              induction n with
              | zero =>
                intro i hi
                obtain rfl : z8 = i := by omega
                refine g_iload C dX11_begin_163 2 rfl ?_
                refine g_aload_n C dX11_begin_165 0 rfl ?_
                refine gf_X11_steps C tw1263 dX11_begin_166 ?_
                refine g_topi hz8 ?_
                refine g_icmp_ge C dX11_begin_169 (tgt := 187) (by decide) (fun c_169 => ?_) (fun c_169 => absurd (nI_le (a := z8) (b := z8) (Nat.le_refl _) (by omega)) c_169)
                refine g_aload_n C dX11_begin_187 0 rfl ?_
                refine g_bipush C dX11_begin_188 (v := 67) (by decide) ?_
                have hk := kq (show kLs (mb_K M K p2 p3) 1 v [67] = kLg (mb_K M K p2 p3) 1 v 67 from rfl)
                have gl67 := kLg_le1 (mb_K M K p2 p3) v 67
                have hm1 : (mb_K M K p2 p3).2.1 1 = K.2.1 1 := rfl
                have hm5 : (mb_K M K p2 p3).2.1 5 = K.2.1 5 := rfl
                have hm7 : (mb_K M K p2 p3).2.1 7 = K.2.1 7 := rfl
                refine g_K (K' := mb_K M K p2 p3) rfl ?_
                refine g_callVvW C dX11_begin_190 (c_X11_note _ _ _ _ _ _ _ _ _ v 67 (by omega) (by decide) hv0 (by omega) (by omega)) tw1631 tw1633 tp29 tw16 tw1634 (rv_X11 C) rfl ⟨by decide +kernel, by decide +kernel, rfl⟩ ⟨rfl, rfl⟩ (by rw [hR]; exact ⟨Nat.le_of_ble_eq_true rfl, Nat.le_of_ble_eq_true rfl⟩) (Nat.le_of_ble_eq_true rfl) (by omega) (fun X1 M1 K1 h_22 => ?_)
                obtain ⟨hX1, hM1, hK1⟩ := h_22
                subst X1 M1 K1
                refine g_aload_n C dX11_begin_193 0 rfl ?_
                refine gf_X11_second C tw1244 dX11_begin_194 ?_
                refine g_iload_n C dX11_begin_197 1 rfl ?_
                refine g_isub C dX11_begin_198 ?_
                refine g_iretW C hr hQ (by omega) (by omega) dX11_begin_199 ?_
                exact ⟨(by first | with_reducible rfl | (subst er_1 er_5 er_9 er_13 er_17; first | with_reducible rfl | (simp only [sa_ap, si_ap, si_sa, sa_sa, sa_3, sa_4, sa_5, sa_6, sa_7, sa_8, xs_begin, xs_go, mb_M, mb_K, ms_ag, kLs, up_us, up_up, xs_b, c_17, c_29, c_42, c_62, c_69]; done) | (simp [sa_ap, si_ap, si_sa, sa_sa, sa_3, sa_4, sa_5, sa_6, sa_7, sa_8, xs_begin, xs_go, mb_M, mb_K, ms_ag, kLs, up_us, up_up, xs_b, c_17, c_29, c_42, c_62, c_69]; done))), rfl, (by first | with_reducible rfl | (subst er_1 er_5 er_9 er_13 er_17; first | with_reducible rfl | (simp only [sa_ap, si_ap, si_sa, sa_sa, sa_3, sa_4, sa_5, sa_6, sa_7, sa_8, xs_begin, xs_go, mb_M, mb_K, ms_ag, kLs, up_us, up_up, xs_b, c_17, c_29, c_42, c_62, c_69]; done) | (simp [sa_ap, si_ap, si_sa, sa_sa, sa_3, sa_4, sa_5, sa_6, sa_7, sa_8, xs_begin, xs_go, mb_M, mb_K, ms_ag, kLs, up_us, up_up, xs_b, c_17, c_29, c_42, c_62, c_69]; done))), (by first | with_reducible rfl | (subst er_1 er_5 er_9 er_13 er_17; first | with_reducible rfl | (simp only [sa_ap, si_ap, si_sa, sa_sa, sa_3, sa_4, sa_5, sa_6, sa_7, sa_8, xs_begin, xs_go, mb_M, mb_K, ms_ag, kLs, up_us, up_up, xs_b, c_17, c_29, c_42, c_62, c_69]; done) | (simp [sa_ap, si_ap, si_sa, sa_sa, sa_3, sa_4, sa_5, sa_6, sa_7, sa_8, xs_begin, xs_go, mb_M, mb_K, ms_ag, kLs, up_us, up_up, xs_b, c_17, c_29, c_42, c_62, c_69]; done)))⟩
              | succ n ih =>
                intro i hi
                refine g_iload C dX11_begin_163 2 rfl ?_
                refine g_aload_n C dX11_begin_165 0 rfl ?_
                refine gf_X11_steps C tw1263 dX11_begin_166 ?_
                refine g_topi hz8 ?_
                refine g_icmp_ge C dX11_begin_169 (tgt := 187) (by decide) (fun c_169 => absurd c_169 (nI_ge (a := i) (b := z8) (by omega) (by omega))) (fun c_169 => ?_)
                refine g_aload_n C dX11_begin_172 0 rfl ?_
                refine gf_X11_stepState C tw1267 dX11_begin_173 ?_
                refine g_iload C dX11_begin_176 2 rfl ?_
                refine g_bipush C dX11_begin_178 (v := 45) (by decide) ?_
                refine as_51 C ⟨by decide, by decide⟩ (by omega) dX11_begin_180 ?_
                refine g_iinc C dX11_begin_181 2 rfl (v := nI (i + 1)) (nI_1 _) (L' := [(4, .int (nI (i + 1))), (0, .ref (gad G 42)), (1, .int p1)]) rfl (by rw [hL]; decide) ?_
                refine g_goto C dX11_begin_184 (tgt := 163) (by decide) ?_
                exact g_sub [1, 2, 0] rfl (g_M (by first | with_reducible rfl | (subst er_1 er_5 er_9 er_13 er_17; first | with_reducible rfl | (simp only [sa_ap, si_ap, si_sa, sa_sa, sa_3, sa_4, sa_5, sa_6, sa_7, sa_8, xs_begin, xs_go, mb_M, mb_K, ms_ag, kLs, up_us, up_up, xs_b, c_17, c_29, c_42, c_62, c_69]; done) | (simp [sa_ap, si_ap, si_sa, sa_sa, sa_3, sa_4, sa_5, sa_6, sa_7, sa_8, xs_begin, xs_go, mb_M, mb_K, ms_ag, kLs, up_us, up_up, xs_b, c_17, c_29, c_42, c_62, c_69]; done))) (ih (i + 1) (by omega)))
            exact g_sub [1, 2, 0] rfl (g_M ((sa_selfE _ 51 rfl).symm) (lp163 (z8) 0 (by omega)))
          · try simp only [sa_ap, si_ap, reduceIte, Nat.reduceEqDiff, up_us, lg_cmp_lt, lg_cmp_gt, lg_cmp_le, lg_cmp_ge] at c_69
            refine g_iconst C dX11_begin_72 (v := 1) (by decide) ?_
            refine g_goto C dX11_begin_73 (tgt := 77) (by decide) ?_
            refine g_iconst C dX11_begin_77 (v := 2) (by decide) ?_
            refine g_callViW C dX11_begin_78 (c_X11_fails_1 _ _ _ _ _ _ _ _ _ _ (by rfl) (by decide)) tw1412 tw1414 tp14 tw16 tw1415 (rv_X11 C) rfl ⟨by decide +kernel, by decide +kernel, rfl⟩ ⟨rfl, rfl⟩ (by rw [hR]; exact ⟨Nat.le_of_ble_eq_true rfl, Nat.le_of_ble_eq_true rfl⟩) (Nat.le_of_ble_eq_true rfl) (by omega) (fun r_23 X1 M1 K1 h_24 => ?_)
            obtain ⟨rfl, hX1, hM1, hK1⟩ := h_24
            subst X1 M1 K1
            refine g_if_eq C dX11_begin_81 (tgt := 86) (by decide) (fun c_81 => absurd c_81 (by decide)) (fun c_81 => ?_)
            refine g_iconst C dX11_begin_84 (v := 0) (by decide) ?_
            refine g_iretW C hr hQ (by omega) (by omega) dX11_begin_85 ?_
            exact ⟨(by first | with_reducible rfl | (subst er_1 er_5 er_9 er_13 er_17; first | with_reducible rfl | (simp only [sa_ap, si_ap, si_sa, sa_sa, sa_3, sa_4, sa_5, sa_6, sa_7, sa_8, xs_begin, xs_go, mb_M, mb_K, ms_ag, kLs, up_us, up_up, xs_b, c_17, c_29, c_42, c_62, c_69]; done) | (simp [sa_ap, si_ap, si_sa, sa_sa, sa_3, sa_4, sa_5, sa_6, sa_7, sa_8, xs_begin, xs_go, mb_M, mb_K, ms_ag, kLs, up_us, up_up, xs_b, c_17, c_29, c_42, c_62, c_69]; done))), rfl, (by first | with_reducible rfl | (subst er_1 er_5 er_9 er_13 er_17; first | with_reducible rfl | (simp only [sa_ap, si_ap, si_sa, sa_sa, sa_3, sa_4, sa_5, sa_6, sa_7, sa_8, xs_begin, xs_go, mb_M, mb_K, ms_ag, kLs, up_us, up_up, xs_b, c_17, c_29, c_42, c_62, c_69]; done) | (simp [sa_ap, si_ap, si_sa, sa_sa, sa_3, sa_4, sa_5, sa_6, sa_7, sa_8, xs_begin, xs_go, mb_M, mb_K, ms_ag, kLs, up_us, up_up, xs_b, c_17, c_29, c_42, c_62, c_69]; done))), (by first | with_reducible rfl | (subst er_1 er_5 er_9 er_13 er_17; first | with_reducible rfl | (simp only [sa_ap, si_ap, si_sa, sa_sa, sa_3, sa_4, sa_5, sa_6, sa_7, sa_8, xs_begin, xs_go, mb_M, mb_K, ms_ag, kLs, up_us, up_up, xs_b, c_17, c_29, c_42, c_62, c_69]; done) | (simp [sa_ap, si_ap, si_sa, sa_sa, sa_3, sa_4, sa_5, sa_6, sa_7, sa_8, xs_begin, xs_go, mb_M, mb_K, ms_ag, kLs, up_us, up_up, xs_b, c_17, c_29, c_42, c_62, c_69]; done)))⟩
      · try simp only [sa_ap, si_ap, reduceIte, Nat.reduceEqDiff, up_us, lg_cmp_lt, lg_cmp_gt, lg_cmp_le, lg_cmp_ge] at c_42
        refine g_iconst C dX11_begin_45 (v := 1) (by decide) ?_
        refine g_goto C dX11_begin_46 (tgt := 50) (by decide) ?_
        refine g_iconst C dX11_begin_50 (v := 1) (by decide) ?_
        refine g_callViW C dX11_begin_51 (c_X11_fails_1 _ _ _ _ _ _ _ _ _ _ (by rfl) (by decide)) tw1412 tw1414 tp14 tw16 tw1415 (rv_X11 C) rfl ⟨by decide +kernel, by decide +kernel, rfl⟩ ⟨rfl, rfl⟩ (by rw [hR]; exact ⟨Nat.le_of_ble_eq_true rfl, Nat.le_of_ble_eq_true rfl⟩) (Nat.le_of_ble_eq_true rfl) (by omega) (fun r_25 X1 M1 K1 h_26 => ?_)
        obtain ⟨rfl, hX1, hM1, hK1⟩ := h_26
        subst X1 M1 K1
        refine g_if_ne C dX11_begin_54 (tgt := 84) (by decide) (fun c_54 => ?_) (fun c_54 => absurd c_54 (by decide))
        refine g_iconst C dX11_begin_84 (v := 0) (by decide) ?_
        refine g_iretW C hr hQ (by omega) (by omega) dX11_begin_85 ?_
        exact ⟨(by first | with_reducible rfl | (subst er_1 er_5 er_9; first | with_reducible rfl | (simp only [sa_ap, si_ap, si_sa, sa_sa, sa_3, sa_4, sa_5, sa_6, sa_7, sa_8, xs_begin, xs_go, mb_M, mb_K, ms_ag, kLs, up_us, up_up, xs_b, c_17, c_29, c_42]; done) | (simp [sa_ap, si_ap, si_sa, sa_sa, sa_3, sa_4, sa_5, sa_6, sa_7, sa_8, xs_begin, xs_go, mb_M, mb_K, ms_ag, kLs, up_us, up_up, xs_b, c_17, c_29, c_42]; done))), rfl, (by first | with_reducible rfl | (subst er_1 er_5 er_9; first | with_reducible rfl | (simp only [sa_ap, si_ap, si_sa, sa_sa, sa_3, sa_4, sa_5, sa_6, sa_7, sa_8, xs_begin, xs_go, mb_M, mb_K, ms_ag, kLs, up_us, up_up, xs_b, c_17, c_29, c_42]; done) | (simp [sa_ap, si_ap, si_sa, sa_sa, sa_3, sa_4, sa_5, sa_6, sa_7, sa_8, xs_begin, xs_go, mb_M, mb_K, ms_ag, kLs, up_us, up_up, xs_b, c_17, c_29, c_42]; done))), (by first | with_reducible rfl | (subst er_1 er_5 er_9; first | with_reducible rfl | (simp only [sa_ap, si_ap, si_sa, sa_sa, sa_3, sa_4, sa_5, sa_6, sa_7, sa_8, xs_begin, xs_go, mb_M, mb_K, ms_ag, kLs, up_us, up_up, xs_b, c_17, c_29, c_42]; done) | (simp [sa_ap, si_ap, si_sa, sa_sa, sa_3, sa_4, sa_5, sa_6, sa_7, sa_8, xs_begin, xs_go, mb_M, mb_K, ms_ag, kLs, up_us, up_up, xs_b, c_17, c_29, c_42]; done)))⟩

set_option maxHeartbeats 400000 in
set_option maxRecDepth 100000 in
/-- recycle.recycle -/
theorem c_X11_recycle (l : Launch) (D : va_G) (cy : Nat → ClassId) (A : Nat → Prop) (ad sad : Nat → Nat) (X M : XF) (K : KF) (p1 : Int32) (z5 : Nat) (hz5 : M 114 0 = nI z5) (h5 : z5 ≤ 6) (z8 : Nat) (hz8 : M 113 0 = nI z8) (h8 : z8 ≤ 16) (v : Nat) (hv : v < 999999) (hv0 : M 101 0 = nI v) (h16 : 16 ≤ K.2.1 1) (hcap : (kLs K 1 v [82]).2.1 1 < 2 ^ 26) : Met l yX11_recycle (wsA yX11_recycle cX11_recycle 4 (some .int)) ({ frames := 7, cells := (kLs K 1 v [82]).2.1 5 - K.2.1 5, slots := (kLs K 1 v [82]).2.1 7 - K.2.1 7, locals := 211 }) (PcW D cy A ad sad X M K [.ref (ad 42), .int p1]) (QiW D cy A ad (fun r X1 M1 K1 => r = (if xs_rec (M 53) (M 114 0) (M 102 0) (M 104 0) p1 = 0 then gr_n (M 48) (M 51) (M 53 p1.toNatClampNeg) z8 else 0) ∧ X1 = X ∧ M1 = (if xs_rec (M 53) (M 114 0) (M 102 0) (M 104 0) p1 = 0 then mr_M z8 p1.toNatClampNeg M else si M 100 (xs_rec (M 53) (M 114 0) (M 102 0) (M 104 0) p1)) ∧ K1 = (if xs_rec (M 53) (M 114 0) (M 102 0) (M 104 0) p1 = 0 then kLs K 1 v [82] else K))) ((kLs K 1 v [82]).2.1 5 - K.2.1 5) ((kLs K 1 v [82]).2.1 7 - K.2.1 7) A := by
  refine met_ofW [(0, .ref (ad 42)), (1, .int p1)] (by decide +kernel) (Nat.le_of_ble_eq_true rfl) rfl ?_
  intro G C hl hR hL hD hcy hA had hsa hr hQ
  subst hD hcy hA had hsa hl
  have hrc : (gR G).cells = (kLs K 1 v [82]).2.1 5 - K.2.1 5 := by rw [hR]
  have hrs : (gR G).slots = (kLs K 1 v [82]).2.1 7 - K.2.1 7 := by rw [hR]
  refine g_aload_n C dX11_recycle_0 0 rfl ?_
  refine g_iconst C dX11_recycle_1 (v := 0) (by decide) ?_
  refine pf_X11_thrown C tw1243 dX11_recycle_2 ?_
  refine g_aload_n C dX11_recycle_5 0 rfl ?_
  refine g_iload_n C dX11_recycle_6 1 rfl ?_
  refine g_i2l C dX11_recycle_7 ?_
  refine g_lconst C dX11_recycle_8 (v := 0) (by decide) ?_
  refine g_aload_n C dX11_recycle_9 0 rfl ?_
  refine gf_X11_marks C tw1269 dX11_recycle_10 ?_
  refine g_topi rfl ?_
  refine g_iconst C dX11_recycle_13 (v := 1) (by decide) ?_
  refine g_isub C dX11_recycle_14 ?_
  refine g_i2l C dX11_recycle_15 ?_
  refine g_callSiW C dX11_recycle_16 (c_X11_in _ _ _ _ _ _ _ _ _ _ _ _) tw1406 tw1407 tw16 tw1408 rfl ⟨by decide +kernel, by decide +kernel, rfl⟩ ⟨rfl, rfl⟩ (by rw [hR]; exact ⟨Nat.le_of_ble_eq_true rfl, Nat.le_of_ble_eq_true rfl⟩) (Nat.le_of_ble_eq_true rfl) (by omega) (fun r_1 X1 M1 K1 h_2 => ?_)
  obtain ⟨er_1, hX1, hM1, hK1⟩ := h_2
  subst X1 M1 K1
  try simp only [sa_ap, si_ap, reduceIte, Nat.reduceEqDiff] at er_1
  have c_n := er_1
  refine g_if_ne C dX11_recycle_19 (tgt := 26) (by decide) (fun c_19 => ?_) (fun c_19 => ?_)
  · try simp only [sa_ap, si_ap, reduceIte, Nat.reduceEqDiff, up_us, lg_cmp_lt, lg_cmp_gt, lg_cmp_le, lg_cmp_ge] at c_19
    rw [c_n] at c_19
    obtain ⟨j, hj, rfl⟩ := md_no_ix (p := p1) (s := M 114 0) hz5 (by omega) (by unfold md_no; exact if_neg c_19)
    have c_clj : (nI j).toNatClampNeg = j := nI_clamp (by omega)
    refine g_iconst C dX11_recycle_26 (v := 0) (by decide) ?_
    refine g_iconst C dX11_recycle_27 (v := 1) (by decide) ?_
    refine g_callViW C dX11_recycle_28 (c_X11_fails_0 _ _ _ _ _ _ _ _ _ _ (by rfl)) tw1412 tw1414 tp14 tw16 tw1415 (rv_X11 C) rfl ⟨by decide +kernel, by decide +kernel, rfl⟩ ⟨rfl, rfl⟩ (by rw [hR]; exact ⟨Nat.le_of_ble_eq_true rfl, Nat.le_of_ble_eq_true rfl⟩) (Nat.le_of_ble_eq_true rfl) (by omega) (fun r_3 X1 M1 K1 h_4 => ?_)
    obtain ⟨rfl, hX1, hM1, hK1⟩ := h_4
    subst X1 M1 K1
    refine g_if_ne C dX11_recycle_31 (tgt := 67) (by decide) (fun c_31 => absurd c_31 (by decide)) (fun c_31 => ?_)
    refine g_aload_n C dX11_recycle_34 0 rfl ?_
    refine g_aload_n C dX11_recycle_35 0 rfl ?_
    refine g_callViW C dX11_recycle_36 (c_X11_isCounting _ _ _ _ _ _ _ _ _ ) tw1436 tw1438 tp15 tw16 tw1439 (rv_X11 C) rfl ⟨by decide +kernel, by decide +kernel, rfl⟩ ⟨rfl, rfl⟩ (by rw [hR]; exact ⟨Nat.le_of_ble_eq_true rfl, Nat.le_of_ble_eq_true rfl⟩) (Nat.le_of_ble_eq_true rfl) (by omega) (fun r_5 X1 M1 K1 h_6 => ?_)
    obtain ⟨er_5, hX1, hM1, hK1⟩ := h_6
    subst X1 M1 K1
    try simp only [sa_ap, si_ap, reduceIte, Nat.reduceEqDiff] at er_5
    refine g_if_eq C dX11_recycle_39 (tgt := 55) (by decide) (fun c_39 => ?_) (fun c_39 => ?_)
    · try simp only [sa_ap, si_ap, reduceIte, Nat.reduceEqDiff, up_us, lg_cmp_lt, lg_cmp_gt, lg_cmp_le, lg_cmp_ge] at c_39
      refine g_iconst C dX11_recycle_55 (v := 1) (by decide) ?_
      refine g_goto C dX11_recycle_56 (tgt := 60) (by decide) ?_
      refine g_iconst C dX11_recycle_60 (v := 2) (by decide) ?_
      refine g_callViW C dX11_recycle_61 (c_X11_fails_1 _ _ _ _ _ _ _ _ _ _ (by rfl) (by decide)) tw1412 tw1414 tp14 tw16 tw1415 (rv_X11 C) rfl ⟨by decide +kernel, by decide +kernel, rfl⟩ ⟨rfl, rfl⟩ (by rw [hR]; exact ⟨Nat.le_of_ble_eq_true rfl, Nat.le_of_ble_eq_true rfl⟩) (Nat.le_of_ble_eq_true rfl) (by omega) (fun r_7 X1 M1 K1 h_8 => ?_)
      obtain ⟨rfl, hX1, hM1, hK1⟩ := h_8
      subst X1 M1 K1
      refine g_if_eq C dX11_recycle_64 (tgt := 69) (by decide) (fun c_64 => absurd c_64 (by decide)) (fun c_64 => ?_)
      refine g_iconst C dX11_recycle_67 (v := 0) (by decide) ?_
      refine g_iretW C hr hQ (by omega) (by omega) dX11_recycle_68 ?_
      exact ⟨(by first | with_reducible rfl | (subst er_1 er_5; first | with_reducible rfl | (simp only [sa_ap, si_ap, si_sa, sa_sa, sa_3, sa_4, sa_5, sa_6, sa_7, sa_8, xs_rec, md_no, mr_M, gr_s, gr_n, kLs, up_us, up_up, xs_b, c_19, c_clj, c_39]; done) | (simp [sa_ap, si_ap, si_sa, sa_sa, sa_3, sa_4, sa_5, sa_6, sa_7, sa_8, xs_rec, md_no, mr_M, gr_s, gr_n, kLs, up_us, up_up, xs_b, c_19, c_clj, c_39]; done))), rfl, (by first | with_reducible rfl | (subst er_1 er_5; first | with_reducible rfl | (simp only [sa_ap, si_ap, si_sa, sa_sa, sa_3, sa_4, sa_5, sa_6, sa_7, sa_8, xs_rec, md_no, mr_M, gr_s, gr_n, kLs, up_us, up_up, xs_b, c_19, c_clj, c_39]; done) | (simp [sa_ap, si_ap, si_sa, sa_sa, sa_3, sa_4, sa_5, sa_6, sa_7, sa_8, xs_rec, md_no, mr_M, gr_s, gr_n, kLs, up_us, up_up, xs_b, c_19, c_clj, c_39]; done))), (by first | with_reducible rfl | (subst er_1 er_5; first | with_reducible rfl | (simp only [sa_ap, si_ap, si_sa, sa_sa, sa_3, sa_4, sa_5, sa_6, sa_7, sa_8, xs_rec, md_no, mr_M, gr_s, gr_n, kLs, up_us, up_up, xs_b, c_19, c_clj, c_39]; done) | (simp [sa_ap, si_ap, si_sa, sa_sa, sa_3, sa_4, sa_5, sa_6, sa_7, sa_8, xs_rec, md_no, mr_M, gr_s, gr_n, kLs, up_us, up_up, xs_b, c_19, c_clj, c_39]; done)))⟩
    · try simp only [sa_ap, si_ap, reduceIte, Nat.reduceEqDiff, up_us, lg_cmp_lt, lg_cmp_gt, lg_cmp_le, lg_cmp_ge] at c_39
      refine g_aload_n C dX11_recycle_42 0 rfl ?_
      refine gf_X11_count C tw1247 dX11_recycle_43 ?_
      refine g_aload_n C dX11_recycle_46 0 rfl ?_
      refine gf_X11_markCount C tw1270 dX11_recycle_47 ?_
      refine g_iload_n C dX11_recycle_50 1 rfl ?_
      refine al_53 C (by omega) dX11_recycle_51 ?_
      refine g_icmp_gt C dX11_recycle_52 (tgt := 59) (by decide) (fun c_52 => ?_) (fun c_52 => ?_)
      · try simp only [sa_ap, si_ap, reduceIte, Nat.reduceEqDiff, up_us, lg_cmp_lt, lg_cmp_gt, lg_cmp_le, lg_cmp_ge] at c_52
        refine g_iconst C dX11_recycle_59 (v := 0) (by decide) ?_
        refine g_iconst C dX11_recycle_60 (v := 2) (by decide) ?_
        refine g_callViW C dX11_recycle_61 (c_X11_fails_0 _ _ _ _ _ _ _ _ _ _ (by rfl)) tw1412 tw1414 tp14 tw16 tw1415 (rv_X11 C) rfl ⟨by decide +kernel, by decide +kernel, rfl⟩ ⟨rfl, rfl⟩ (by rw [hR]; exact ⟨Nat.le_of_ble_eq_true rfl, Nat.le_of_ble_eq_true rfl⟩) (Nat.le_of_ble_eq_true rfl) (by omega) (fun r_9 X1 M1 K1 h_10 => ?_)
        obtain ⟨rfl, hX1, hM1, hK1⟩ := h_10
        subst X1 M1 K1
        refine g_if_eq C dX11_recycle_64 (tgt := 69) (by decide) (fun c_64 => ?_) (fun c_64 => absurd (by decide) c_64)
        refine g_iconst C dX11_recycle_69 (v := 0) (by decide) ?_
        refine g_istore_n C dX11_recycle_70 (L' := [(2, .int 0), (0, .ref (gad G 42)), (1, .int (nI j))]) rfl (by rw [hL]; decide) ?_
        refine g_iconst C dX11_recycle_71 (v := 0) (by decide) ?_
        refine g_istore_n C dX11_recycle_72 (L' := [(3, .int 0), (2, .int 0), (0, .ref (gad G 42)), (1, .int (nI j))]) rfl (by rw [hL]; decide) ?_
        have lp73 : ∀ (n i : Nat) (a : Int32) (hi : i + n = z8) (ha : a = gr_n (M 48) (M 51) (M 53 j) i), GH G (WX G X (sa (si M 100 0) 51 (gr_s (M 48) (M 51) (M 53 j) i)) K) [(0, .ref (gad G 42)), (1, .int (nI j)), (2, .int a), (3, .int (nI i))] 0 0 73 [] := by
          intro n
          induction n with
          | zero =>
            intro i a hi ha
            obtain rfl : z8 = i := by omega
            refine g_iload_n C dX11_recycle_73 3 rfl ?_
            refine g_aload_n C dX11_recycle_74 0 rfl ?_
            refine gf_X11_steps C tw1263 dX11_recycle_75 ?_
            refine g_topi hz8 ?_
            refine g_icmp_ge C dX11_recycle_78 (tgt := 129) (by decide) (fun c_78 => ?_) (fun c_78 => absurd (nI_le (a := z8) (b := z8) (Nat.le_refl _) (by omega)) c_78)
            refine g_aload_n C dX11_recycle_129 0 rfl ?_
            refine g_aload_n C dX11_recycle_130 0 rfl ?_
            refine gf_X11_markCount C tw1270 dX11_recycle_131 ?_
            refine g_iload_n C dX11_recycle_134 1 rfl ?_
            refine al_53 C (by omega) dX11_recycle_135 ?_
            refine pf_X11_count C tw1247 dX11_recycle_136 ?_
            refine g_aload_n C dX11_recycle_139 0 rfl ?_
            refine g_iconst C dX11_recycle_140 (v := 0) (by decide) ?_
            refine pf_X11_stayed C tw1251 dX11_recycle_141 ?_
            refine g_aload_n C dX11_recycle_144 0 rfl ?_
            refine g_bipush C dX11_recycle_145 (v := 99) (by decide) ?_
            refine pf_X11_state C ⟨by decide, by decide⟩ tw1245 dX11_recycle_147 ?_
            refine g_aload_n C dX11_recycle_150 0 rfl ?_
            refine g_iconst C dX11_recycle_151 (v := 0) (by decide) ?_
            refine pf_X11_cause C ⟨by decide, by decide⟩ tw1252 dX11_recycle_152 ?_
            refine g_aload_n C dX11_recycle_155 0 rfl ?_
            refine g_iconst C dX11_recycle_156 (v := (-1)) (by decide) ?_
            refine pf_X11_causeRule C tw1253 dX11_recycle_157 ?_
            refine g_aload_n C dX11_recycle_160 0 rfl ?_
            refine g_callVvW C dX11_recycle_161 (c_X11_endWaivers _ _ _ _ _ _ _ _ _ ) tw1627 tw1629 tp28 tw16 tw1630 (rv_X11 C) rfl ⟨by decide +kernel, by decide +kernel, rfl⟩ ⟨rfl, rfl⟩ (by rw [hR]; exact ⟨Nat.le_of_ble_eq_true rfl, Nat.le_of_ble_eq_true rfl⟩) (Nat.le_of_ble_eq_true rfl) (by omega) (fun X1 M1 K1 h_11 => ?_)
            obtain ⟨hX1, hM1, hK1⟩ := h_11
            subst X1 M1 K1
            refine g_aload_n C dX11_recycle_164 0 rfl ?_
            refine g_bipush C dX11_recycle_165 (v := 82) (by decide) ?_
            have hk := kq (show kLs K 1 v [82] = kLg K 1 v 82 from rfl)
            have gl82 := kLg_le1 (K) v 82
            refine g_callVvW C dX11_recycle_167 (c_X11_note _ _ _ _ _ _ _ _ _ v 82 (by omega) (by decide) hv0 (by omega) (by omega)) tw1631 tw1633 tp29 tw16 tw1634 (rv_X11 C) rfl ⟨by decide +kernel, by decide +kernel, rfl⟩ ⟨rfl, rfl⟩ (by rw [hR]; exact ⟨Nat.le_of_ble_eq_true rfl, Nat.le_of_ble_eq_true rfl⟩) (Nat.le_of_ble_eq_true rfl) (by omega) (fun X1 M1 K1 h_12 => ?_)
            obtain ⟨hX1, hM1, hK1⟩ := h_12
            subst X1 M1 K1
            refine g_iload_n C dX11_recycle_170 2 rfl ?_
            refine g_iretW C hr hQ (by omega) (by omega) dX11_recycle_171 ?_
            exact ⟨(by first | with_reducible rfl | (subst er_1 er_5 ha; first | with_reducible rfl | (simp only [sa_ap, si_ap, si_sa, sa_sa, sa_3, sa_4, sa_5, sa_6, sa_7, sa_8, xs_rec, md_no, mr_M, gr_s, gr_n, kLs, up_us, up_up, xs_b, c_19, c_clj, c_39, c_52]; done) | (simp [sa_ap, si_ap, si_sa, sa_sa, sa_3, sa_4, sa_5, sa_6, sa_7, sa_8, xs_rec, md_no, mr_M, gr_s, gr_n, kLs, up_us, up_up, xs_b, c_19, c_clj, c_39, c_52]; done))), rfl, (by first | with_reducible rfl | (subst er_1 er_5 ha; first | with_reducible rfl | (simp only [sa_ap, si_ap, si_sa, sa_sa, sa_3, sa_4, sa_5, sa_6, sa_7, sa_8, xs_rec, md_no, mr_M, gr_s, gr_n, kLs, up_us, up_up, xs_b, c_19, c_clj, c_39, c_52]; done) | (simp [sa_ap, si_ap, si_sa, sa_sa, sa_3, sa_4, sa_5, sa_6, sa_7, sa_8, xs_rec, md_no, mr_M, gr_s, gr_n, kLs, up_us, up_up, xs_b, c_19, c_clj, c_39, c_52]; done))), (by first | with_reducible rfl | (subst er_1 er_5 ha; first | with_reducible rfl | (simp only [sa_ap, si_ap, si_sa, sa_sa, sa_3, sa_4, sa_5, sa_6, sa_7, sa_8, xs_rec, md_no, mr_M, gr_s, gr_n, kLs, up_us, up_up, xs_b, c_19, c_clj, c_39, c_52]; done) | (simp [sa_ap, si_ap, si_sa, sa_sa, sa_3, sa_4, sa_5, sa_6, sa_7, sa_8, xs_rec, md_no, mr_M, gr_s, gr_n, kLs, up_us, up_up, xs_b, c_19, c_clj, c_39, c_52]; done)))⟩
          | succ n ih =>
            intro i a hi ha
            refine g_iload_n C dX11_recycle_73 3 rfl ?_
            refine g_aload_n C dX11_recycle_74 0 rfl ?_
            refine gf_X11_steps C tw1263 dX11_recycle_75 ?_
            refine g_topi hz8 ?_
            refine g_icmp_ge C dX11_recycle_78 (tgt := 129) (by decide) (fun c_78 => absurd c_78 (nI_ge (a := i) (b := z8) (by omega) (by omega))) (fun c_78 => ?_)
            refine g_aload_n C dX11_recycle_81 0 rfl ?_
            refine gf_X11_from C tw1264 dX11_recycle_82 ?_
            refine g_iload_n C dX11_recycle_85 3 rfl ?_
            refine al_48 C (by omega) dX11_recycle_86 ?_
            refine g_aload_n C dX11_recycle_87 0 rfl ?_
            refine gf_X11_markCount C tw1270 dX11_recycle_88 ?_
            refine g_iload_n C dX11_recycle_91 1 rfl ?_
            refine al_53 C (by omega) dX11_recycle_92 ?_
            refine g_icmp_lt C dX11_recycle_93 (tgt := 123) (by decide) (fun c_93 => ?_) (fun c_93 => ?_)
            · try simp only [sa_ap, si_ap, reduceIte, Nat.reduceEqDiff, up_us, lg_cmp_lt, lg_cmp_gt, lg_cmp_le, lg_cmp_ge] at c_93
              refine g_iinc C dX11_recycle_123 3 rfl (v := nI (i + 1)) (nI_1 _) (L' := [(3, .int (nI (i + 1))), (0, .ref (gad G 42)), (1, .int (nI j)), (2, .int a)]) rfl (by rw [hL]; decide) ?_
              refine g_goto C dX11_recycle_126 (tgt := 73) (by decide) ?_
              exact g_sub [1, 2, 3, 0] rfl (g_M (by first | with_reducible rfl | (subst er_1 er_5 ha; first | with_reducible rfl | (simp only [sa_ap, si_ap, si_sa, sa_sa, sa_3, sa_4, sa_5, sa_6, sa_7, sa_8, xs_rec, md_no, mr_M, gr_s, gr_n, kLs, up_us, up_up, xs_b, c_19, c_clj, c_39, c_52, c_93]; done) | (simp [sa_ap, si_ap, si_sa, sa_sa, sa_3, sa_4, sa_5, sa_6, sa_7, sa_8, xs_rec, md_no, mr_M, gr_s, gr_n, kLs, up_us, up_up, xs_b, c_19, c_clj, c_39, c_52, c_93]; done))) (ih (i + 1) _ (by omega) (by first | with_reducible rfl | (subst er_1 er_5 ha; first | with_reducible rfl | (simp only [sa_ap, si_ap, si_sa, sa_sa, sa_3, sa_4, sa_5, sa_6, sa_7, sa_8, xs_rec, md_no, mr_M, gr_s, gr_n, kLs, up_us, up_up, xs_b, c_19, c_clj, c_39, c_52, c_93]; done) | (simp [sa_ap, si_ap, si_sa, sa_sa, sa_3, sa_4, sa_5, sa_6, sa_7, sa_8, xs_rec, md_no, mr_M, gr_s, gr_n, kLs, up_us, up_up, xs_b, c_19, c_clj, c_39, c_52, c_93]; done)))))
            · try simp only [sa_ap, si_ap, reduceIte, Nat.reduceEqDiff, up_us, lg_cmp_lt, lg_cmp_gt, lg_cmp_le, lg_cmp_ge] at c_93
              refine g_iload_n C dX11_recycle_96 2 rfl ?_
              refine g_aload_n C dX11_recycle_97 0 rfl ?_
              refine gf_X11_stepState C tw1267 dX11_recycle_98 ?_
              refine g_iload_n C dX11_recycle_101 3 rfl ?_
              refine al_51 C (by omega) dX11_recycle_102 ?_
              refine g_bipush C dX11_recycle_103 (v := 45) (by decide) ?_
              refine g_icmp_ne C dX11_recycle_105 (tgt := 112) (by decide) (fun c_105 => ?_) (fun c_105 => ?_)
              · try simp only [sa_ap, si_ap, reduceIte, Nat.reduceEqDiff, up_us, lg_cmp_lt, lg_cmp_gt, lg_cmp_le, lg_cmp_ge] at c_105
                refine g_iconst C dX11_recycle_112 (v := 1) (by decide) ?_
                refine g_iadd C dX11_recycle_113 ?_
                refine g_namei (fun v_13 ev_13 => ?_)
                refine g_istore_n C dX11_recycle_114 (L' := [(2, .int v_13), (0, .ref (gad G 42)), (1, .int (nI j)), (3, .int (nI i))]) rfl (by rw [hL]; decide) ?_
                refine g_aload_n C dX11_recycle_115 1 rfl ?_
                refine gf_X11_stepState C tw1267 dX11_recycle_116 ?_
                refine g_iload_n C dX11_recycle_119 3 rfl ?_
                refine g_bipush C dX11_recycle_120 (v := 45) (by decide) ?_
                refine as_51 C ⟨by decide, by decide⟩ (by omega) dX11_recycle_122 ?_
                refine g_iinc C dX11_recycle_123 3 rfl (v := nI (i + 1)) (nI_1 _) (L' := [(3, .int (nI (i + 1))), (2, .int v_13), (0, .ref (gad G 42)), (1, .int (nI j))]) rfl (by rw [hL]; decide) ?_
                refine g_goto C dX11_recycle_126 (tgt := 73) (by decide) ?_
                exact g_sub [2, 3, 1, 0] rfl (g_M (by first | with_reducible rfl | (subst er_1 er_5 ha ev_13; first | with_reducible rfl | (simp only [sa_ap, si_ap, si_sa, sa_sa, sa_3, sa_4, sa_5, sa_6, sa_7, sa_8, xs_rec, md_no, mr_M, gr_s, gr_n, kLs, up_us, up_up, xs_b, c_19, c_clj, c_39, c_52, c_93, c_105]; done) | (simp [sa_ap, si_ap, si_sa, sa_sa, sa_3, sa_4, sa_5, sa_6, sa_7, sa_8, xs_rec, md_no, mr_M, gr_s, gr_n, kLs, up_us, up_up, xs_b, c_19, c_clj, c_39, c_52, c_93, c_105]; done))) (ih (i + 1) _ (by omega) (by first | with_reducible rfl | (subst er_1 er_5 ha ev_13; first | with_reducible rfl | (simp only [sa_ap, si_ap, si_sa, sa_sa, sa_3, sa_4, sa_5, sa_6, sa_7, sa_8, xs_rec, md_no, mr_M, gr_s, gr_n, kLs, up_us, up_up, xs_b, c_19, c_clj, c_39, c_52, c_93, c_105]; done) | (simp [sa_ap, si_ap, si_sa, sa_sa, sa_3, sa_4, sa_5, sa_6, sa_7, sa_8, xs_rec, md_no, mr_M, gr_s, gr_n, kLs, up_us, up_up, xs_b, c_19, c_clj, c_39, c_52, c_93, c_105]; done)))))
              · try simp only [sa_ap, si_ap, reduceIte, Nat.reduceEqDiff, up_us, lg_cmp_lt, lg_cmp_gt, lg_cmp_le, lg_cmp_ge] at c_105
                refine g_iconst C dX11_recycle_108 (v := 0) (by decide) ?_
                refine g_goto C dX11_recycle_109 (tgt := 113) (by decide) ?_
                refine g_iadd C dX11_recycle_113 ?_
                refine g_namei (fun v_14 ev_14 => ?_)
                refine g_istore_n C dX11_recycle_114 (L' := [(2, .int v_14), (0, .ref (gad G 42)), (1, .int (nI j)), (3, .int (nI i))]) rfl (by rw [hL]; decide) ?_
                refine g_aload_n C dX11_recycle_115 1 rfl ?_
                refine gf_X11_stepState C tw1267 dX11_recycle_116 ?_
                refine g_iload_n C dX11_recycle_119 3 rfl ?_
                refine g_bipush C dX11_recycle_120 (v := 45) (by decide) ?_
                refine as_51 C ⟨by decide, by decide⟩ (by omega) dX11_recycle_122 ?_
                refine g_iinc C dX11_recycle_123 3 rfl (v := nI (i + 1)) (nI_1 _) (L' := [(3, .int (nI (i + 1))), (2, .int v_14), (0, .ref (gad G 42)), (1, .int (nI j))]) rfl (by rw [hL]; decide) ?_
                refine g_goto C dX11_recycle_126 (tgt := 73) (by decide) ?_
                exact g_sub [2, 3, 1, 0] rfl (g_M (by first | with_reducible rfl | (subst er_1 er_5 ha ev_14; first | with_reducible rfl | (simp only [sa_ap, si_ap, si_sa, sa_sa, sa_3, sa_4, sa_5, sa_6, sa_7, sa_8, xs_rec, md_no, mr_M, gr_s, gr_n, kLs, up_us, up_up, xs_b, c_19, c_clj, c_39, c_52, c_93, c_105]; done) | (simp [sa_ap, si_ap, si_sa, sa_sa, sa_3, sa_4, sa_5, sa_6, sa_7, sa_8, xs_rec, md_no, mr_M, gr_s, gr_n, kLs, up_us, up_up, xs_b, c_19, c_clj, c_39, c_52, c_93, c_105]; done))) (ih (i + 1) _ (by omega) (by first | with_reducible rfl | (subst er_1 er_5 ha ev_14; first | with_reducible rfl | (simp only [sa_ap, si_ap, si_sa, sa_sa, sa_3, sa_4, sa_5, sa_6, sa_7, sa_8, xs_rec, md_no, mr_M, gr_s, gr_n, kLs, up_us, up_up, xs_b, c_19, c_clj, c_39, c_52, c_93, c_105]; done) | (simp [sa_ap, si_ap, si_sa, sa_sa, sa_3, sa_4, sa_5, sa_6, sa_7, sa_8, xs_rec, md_no, mr_M, gr_s, gr_n, kLs, up_us, up_up, xs_b, c_19, c_clj, c_39, c_52, c_93, c_105]; done)))))
        exact g_sub [2, 3, 1, 0] rfl (g_M ((sa_selfE _ 51 rfl).symm) (lp73 (z8) 0 _ (by omega) (by first | with_reducible rfl | (subst er_1 er_5; first | with_reducible rfl | (simp only [sa_ap, si_ap, si_sa, sa_sa, sa_3, sa_4, sa_5, sa_6, sa_7, sa_8, xs_rec, md_no, mr_M, gr_s, gr_n, kLs, up_us, up_up, xs_b, c_19, c_clj, c_39, c_52]; done) | (simp [sa_ap, si_ap, si_sa, sa_sa, sa_3, sa_4, sa_5, sa_6, sa_7, sa_8, xs_rec, md_no, mr_M, gr_s, gr_n, kLs, up_us, up_up, xs_b, c_19, c_clj, c_39, c_52]; done)))))
      · try simp only [sa_ap, si_ap, reduceIte, Nat.reduceEqDiff, up_us, lg_cmp_lt, lg_cmp_gt, lg_cmp_le, lg_cmp_ge] at c_52
        refine g_iconst C dX11_recycle_55 (v := 1) (by decide) ?_
        refine g_goto C dX11_recycle_56 (tgt := 60) (by decide) ?_
        refine g_iconst C dX11_recycle_60 (v := 2) (by decide) ?_
        refine g_callViW C dX11_recycle_61 (c_X11_fails_1 _ _ _ _ _ _ _ _ _ _ (by rfl) (by decide)) tw1412 tw1414 tp14 tw16 tw1415 (rv_X11 C) rfl ⟨by decide +kernel, by decide +kernel, rfl⟩ ⟨rfl, rfl⟩ (by rw [hR]; exact ⟨Nat.le_of_ble_eq_true rfl, Nat.le_of_ble_eq_true rfl⟩) (Nat.le_of_ble_eq_true rfl) (by omega) (fun r_15 X1 M1 K1 h_16 => ?_)
        obtain ⟨rfl, hX1, hM1, hK1⟩ := h_16
        subst X1 M1 K1
        refine g_if_eq C dX11_recycle_64 (tgt := 69) (by decide) (fun c_64 => absurd c_64 (by decide)) (fun c_64 => ?_)
        refine g_iconst C dX11_recycle_67 (v := 0) (by decide) ?_
        refine g_iretW C hr hQ (by omega) (by omega) dX11_recycle_68 ?_
        exact ⟨(by first | with_reducible rfl | (subst er_1 er_5; first | with_reducible rfl | (simp only [sa_ap, si_ap, si_sa, sa_sa, sa_3, sa_4, sa_5, sa_6, sa_7, sa_8, xs_rec, md_no, mr_M, gr_s, gr_n, kLs, up_us, up_up, xs_b, c_19, c_clj, c_39, c_52]; done) | (simp [sa_ap, si_ap, si_sa, sa_sa, sa_3, sa_4, sa_5, sa_6, sa_7, sa_8, xs_rec, md_no, mr_M, gr_s, gr_n, kLs, up_us, up_up, xs_b, c_19, c_clj, c_39, c_52]; done))), rfl, (by first | with_reducible rfl | (subst er_1 er_5; first | with_reducible rfl | (simp only [sa_ap, si_ap, si_sa, sa_sa, sa_3, sa_4, sa_5, sa_6, sa_7, sa_8, xs_rec, md_no, mr_M, gr_s, gr_n, kLs, up_us, up_up, xs_b, c_19, c_clj, c_39, c_52]; done) | (simp [sa_ap, si_ap, si_sa, sa_sa, sa_3, sa_4, sa_5, sa_6, sa_7, sa_8, xs_rec, md_no, mr_M, gr_s, gr_n, kLs, up_us, up_up, xs_b, c_19, c_clj, c_39, c_52]; done))), (by first | with_reducible rfl | (subst er_1 er_5; first | with_reducible rfl | (simp only [sa_ap, si_ap, si_sa, sa_sa, sa_3, sa_4, sa_5, sa_6, sa_7, sa_8, xs_rec, md_no, mr_M, gr_s, gr_n, kLs, up_us, up_up, xs_b, c_19, c_clj, c_39, c_52]; done) | (simp [sa_ap, si_ap, si_sa, sa_sa, sa_3, sa_4, sa_5, sa_6, sa_7, sa_8, xs_rec, md_no, mr_M, gr_s, gr_n, kLs, up_us, up_up, xs_b, c_19, c_clj, c_39, c_52]; done)))⟩
  · try simp only [sa_ap, si_ap, reduceIte, Nat.reduceEqDiff, up_us, lg_cmp_lt, lg_cmp_gt, lg_cmp_le, lg_cmp_ge] at c_19
    rw [c_n] at c_19
    refine g_iconst C dX11_recycle_22 (v := 1) (by decide) ?_
    refine g_goto C dX11_recycle_23 (tgt := 27) (by decide) ?_
    refine g_iconst C dX11_recycle_27 (v := 1) (by decide) ?_
    refine g_callViW C dX11_recycle_28 (c_X11_fails_1 _ _ _ _ _ _ _ _ _ _ (by rfl) (by decide)) tw1412 tw1414 tp14 tw16 tw1415 (rv_X11 C) rfl ⟨by decide +kernel, by decide +kernel, rfl⟩ ⟨rfl, rfl⟩ (by rw [hR]; exact ⟨Nat.le_of_ble_eq_true rfl, Nat.le_of_ble_eq_true rfl⟩) (Nat.le_of_ble_eq_true rfl) (by omega) (fun r_17 X1 M1 K1 h_18 => ?_)
    obtain ⟨rfl, hX1, hM1, hK1⟩ := h_18
    subst X1 M1 K1
    refine g_if_ne C dX11_recycle_31 (tgt := 67) (by decide) (fun c_31 => ?_) (fun c_31 => absurd c_31 (by decide))
    refine g_iconst C dX11_recycle_67 (v := 0) (by decide) ?_
    refine g_iretW C hr hQ (by omega) (by omega) dX11_recycle_68 ?_
    exact ⟨(by first | with_reducible rfl | (subst er_1; first | with_reducible rfl | (simp only [sa_ap, si_ap, si_sa, sa_sa, sa_3, sa_4, sa_5, sa_6, sa_7, sa_8, xs_rec, md_no, mr_M, gr_s, gr_n, kLs, up_us, up_up, xs_b, c_19]; done) | (simp [sa_ap, si_ap, si_sa, sa_sa, sa_3, sa_4, sa_5, sa_6, sa_7, sa_8, xs_rec, md_no, mr_M, gr_s, gr_n, kLs, up_us, up_up, xs_b, c_19]; done))), rfl, (by first | with_reducible rfl | (subst er_1; first | with_reducible rfl | (simp only [sa_ap, si_ap, si_sa, sa_sa, sa_3, sa_4, sa_5, sa_6, sa_7, sa_8, xs_rec, md_no, mr_M, gr_s, gr_n, kLs, up_us, up_up, xs_b, c_19]; done) | (simp [sa_ap, si_ap, si_sa, sa_sa, sa_3, sa_4, sa_5, sa_6, sa_7, sa_8, xs_rec, md_no, mr_M, gr_s, gr_n, kLs, up_us, up_up, xs_b, c_19]; done))), (by first | with_reducible rfl | (subst er_1; first | with_reducible rfl | (simp only [sa_ap, si_ap, si_sa, sa_sa, sa_3, sa_4, sa_5, sa_6, sa_7, sa_8, xs_rec, md_no, mr_M, gr_s, gr_n, kLs, up_us, up_up, xs_b, c_19]; done) | (simp [sa_ap, si_ap, si_sa, sa_sa, sa_3, sa_4, sa_5, sa_6, sa_7, sa_8, xs_rec, md_no, mr_M, gr_s, gr_n, kLs, up_us, up_up, xs_b, c_19]; done)))⟩

set_option maxHeartbeats 400000 in
set_option maxRecDepth 100000 in
/-- scrub.scrub -/
theorem c_X11_scrub (l : Launch) (D : va_G) (cy : Nat → ClassId) (A : Nat → Prop) (ad sad : Nat → Nat) (X M : XF) (K : KF) (v : Nat) (hv : v < 999999) (hv0 : M 101 0 = nI v) (h16 : 16 ≤ K.2.1 1) (hcap : (kLs K 1 v (ms_A M).2).2.1 1 < 2 ^ 26) : Met l yX11_scrub (wsA yX11_scrub cX11_scrub 2 (some .boolean)) ({ frames := 8, cells := (kLs K 1 v (ms_A M).2).2.1 5 - K.2.1 5, slots := (kLs K 1 v (ms_A M).2).2.1 7 - K.2.1 7, locals := 233 }) (PcW D cy A ad sad X M K [.ref (ad 42)]) (QiW D cy A ad (fun r X1 M1 K1 => r = md_ic (M 102 0) ∧ X1 = X ∧ M1 = (ms_A M).1 ∧ K1 = kLs K 1 v (ms_A M).2)) ((kLs K 1 v (ms_A M).2).2.1 5 - K.2.1 5) ((kLs K 1 v (ms_A M).2).2.1 7 - K.2.1 7) A := by
  refine met_ofW [(0, .ref (ad 42))] (by decide +kernel) (Nat.le_of_ble_eq_true rfl) rfl ?_
  intro G C hl hR hL hD hcy hA had hsa hr hQ
  subst hD hcy hA had hsa hl
  have hrc : (gR G).cells = (kLs K 1 v (ms_A M).2).2.1 5 - K.2.1 5 := by rw [hR]
  have hrs : (gR G).slots = (kLs K 1 v (ms_A M).2).2.1 7 - K.2.1 7 := by rw [hR]
  refine g_aload_n C dX11_scrub_0 0 rfl ?_
  refine g_iconst C dX11_scrub_1 (v := 0) (by decide) ?_
  refine pf_X11_thrown C tw1243 dX11_scrub_2 ?_
  refine g_aload_n C dX11_scrub_5 0 rfl ?_
  refine g_callViW C dX11_scrub_6 (c_X11_isCounting _ _ _ _ _ _ _ _ _ ) tw1436 tw1438 tp15 tw16 tw1439 (rv_X11 C) rfl ⟨by decide +kernel, by decide +kernel, rfl⟩ ⟨rfl, rfl⟩ (by rw [hR]; exact ⟨Nat.le_of_ble_eq_true rfl, Nat.le_of_ble_eq_true rfl⟩) (Nat.le_of_ble_eq_true rfl) (by omega) (fun r_1 X1 M1 K1 h_2 => ?_)
  obtain ⟨er_1, hX1, hM1, hK1⟩ := h_2
  subst X1 M1 K1
  try simp only [sa_ap, si_ap, reduceIte, Nat.reduceEqDiff] at er_1
  have c_i := er_1
  refine g_istore_n C dX11_scrub_9 (L' := [(1, .int r_1), (0, .ref (gad G 42))]) rfl (by rw [hL]; decide) ?_
  refine g_iload_n C dX11_scrub_10 0 rfl ?_
  refine g_if_eq C dX11_scrub_11 (tgt := 21) (by decide) (fun c_11 => ?_) (fun c_11 => ?_)
  · try simp only [sa_ap, si_ap, reduceIte, Nat.reduceEqDiff, up_us, lg_cmp_lt, lg_cmp_gt, lg_cmp_le, lg_cmp_ge] at c_11
    rw [c_i] at c_11
    refine g_iload_n C dX11_scrub_21 0 rfl ?_
    refine g_zretW C hr (by rw [c_i]; exact (isBo.na (md_ic_bo _)).1) hQ (by omega) (by omega) dX11_scrub_22 ?_
    exact ⟨by assumption, rfl, (by (try unfold ms_A); (all_goals first | rw [if_pos c_11] | rw [if_neg c_11] | skip); all_goals first | rfl), (by (try unfold ms_A); (all_goals first | rw [if_pos c_11] | rw [if_neg c_11] | skip); all_goals first | with_reducible rfl | (simp only [kLs_1, kLs_0, kLs_app]; done))⟩
  · try simp only [sa_ap, si_ap, reduceIte, Nat.reduceEqDiff, up_us, lg_cmp_lt, lg_cmp_gt, lg_cmp_le, lg_cmp_ge] at c_11
    rw [c_i] at c_11
    refine g_aload_n C dX11_scrub_14 1 rfl ?_
    refine g_bipush C dX11_scrub_15 (v := 99) (by decide) ?_
    refine g_iconst C dX11_scrub_17 (v := (-1)) (by decide) ?_
    have hk := kq (show kLs K 1 v (ms_A M).2 = kLs K 1 v [83] from (by (try unfold ms_A); (all_goals first | rw [if_pos c_11] | rw [if_neg c_11] | skip); all_goals first | with_reducible rfl | (simp only [kLs_1, kLs_0, kLs_app]; done)))
    refine g_callVvW C dX11_scrub_18 (c_X11_callOff _ _ _ _ _ _ _ _ _ 99 (-1) ⟨by decide, by decide⟩ v hv hv0 h16 (by omega)) tw1645 tw1647 tp30 tw16 tw1648 (rv_X11 C) rfl ⟨by decide +kernel, by decide +kernel, rfl⟩ ⟨rfl, rfl⟩ (by rw [hR]; exact ⟨Nat.le_of_ble_eq_true rfl, Nat.le_of_ble_eq_true rfl⟩) (Nat.le_of_ble_eq_true rfl) (by omega) (fun X1 M1 K1 h_3 => ?_)
    obtain ⟨hX1, hM1, hK1⟩ := h_3
    subst X1 M1 K1
    refine g_iload_n C dX11_scrub_21 0 rfl ?_
    refine g_zretW C hr (by rw [c_i]; exact (isBo.na (md_ic_bo _)).1) hQ (by omega) (by omega) dX11_scrub_22 ?_
    exact ⟨by assumption, rfl, (by (try unfold ms_A); (all_goals first | rw [if_pos c_11] | rw [if_neg c_11] | skip); all_goals first | rfl), (by (try unfold ms_A); (all_goals first | rw [if_pos c_11] | rw [if_neg c_11] | skip); all_goals first | with_reducible rfl | (simp only [kLs_1, kLs_0, kLs_app]; done))⟩

set_option maxHeartbeats 400000 in
set_option maxRecDepth 100000 in
/-- logLength.logLength -/
theorem c_X11_logLength (l : Launch) (D : va_G) (cy : Nat → ClassId) (A : Nat → Prop) (ad sad : Nat → Nat) (X M : XF) (K : KF) (hcap : K.2.1 1 < 2 ^ 26) (hlen : (K.2.2.1 1).length < 2 ^ 26) : Met l yX11_logLength (wsA yX11_logLength cX11_logLength 1 (some .int)) ({ frames := 2, cells := 0, slots := 0, locals := 40 }) (PcW D cy A ad sad X M K [.ref (ad 42)]) (QiW D cy A ad (fun r X1 M1 K1 => r = nI (K.2.2.1 1).length ∧ X1 = X ∧ M1 = si M 100 0 ∧ K1 = K)) 0 0 A := by
  refine met_ofW [(0, .ref (ad 42))] (by decide +kernel) (Nat.le_of_ble_eq_true rfl) rfl ?_
  intro G C hl hR hL hD hcy hA had hsa hr hQ
  subst hD hcy hA had hsa hl
  refine g_aload_n C dX11_logLength_0 0 rfl ?_
  refine g_iconst C dX11_logLength_1 (v := 0) (by decide) ?_
  refine pf_X11_thrown C tw1243 dX11_logLength_2 ?_
  refine g_aload_n C dX11_logLength_5 0 rfl ?_
  refine gf_X11_log C tw1292 dX11_logLength_6 ?_
  refine g_callViW C dX11_logLength_9 (c_lenW1 _ _ _ _ _ _ _ _ _ hcap) tw1722 tw524 tw525 tw13 tw526 (rv_J4_1 C) rfl ⟨by decide +kernel, by decide +kernel, rfl⟩ ⟨rfl, rfl⟩ (by rw [hR]; decide) (Nat.le_of_ble_eq_true rfl) (by rw [hR]; decide) (fun r_1 X1 M1 K1 h_2 => ?_)
  obtain ⟨er_1, hX1, hM1, hK1⟩ := h_2
  subst X1 M1 K1
  try simp only [sa_ap, si_ap, reduceIte, Nat.reduceEqDiff] at er_1
  refine g_iretW C hr hQ (Nat.le_refl _) (Nat.le_refl _) dX11_logLength_12 ?_
  exact ⟨(by first | with_reducible rfl | (subst er_1; first | with_reducible rfl | (simp only [sa_ap, si_ap, si_sa, sa_sa, sa_3, sa_4, sa_5, sa_6, sa_7, sa_8, up_us, up_up, xs_b]; done) | (simp [sa_ap, si_ap, si_sa, sa_sa, sa_3, sa_4, sa_5, sa_6, sa_7, sa_8, up_us, up_up, xs_b]; done))), (by first | with_reducible rfl | (subst er_1; first | with_reducible rfl | (simp only [sa_ap, si_ap, si_sa, sa_sa, sa_3, sa_4, sa_5, sa_6, sa_7, sa_8, up_us, up_up, xs_b]; done) | (simp [sa_ap, si_ap, si_sa, sa_sa, sa_3, sa_4, sa_5, sa_6, sa_7, sa_8, up_us, up_up, xs_b]; done))), rfl, rfl⟩

set_option maxHeartbeats 400000 in
set_option maxRecDepth 100000 in
/-- logged.logged -/
theorem c_X11_logged (l : Launch) (D : va_G) (cy : Nat → ClassId) (A : Nat → Prop) (ad sad : Nat → Nat) (X M : XF) (K : KF) (p1 : Int32) (hcap : K.2.1 1 < 2 ^ 26) (hlen : (K.2.2.1 1).length < 2 ^ 26) : Met l yX11_logged (wsA yX11_logged cX11_logged 4 (some .int)) ({ frames := 4, cells := 0, slots := 0, locals := 88 }) (PcW D cy A ad sad X M K [.ref (ad 42), .int p1]) (QiW D cy A ad (fun r X1 M1 K1 => r = tm_of (K.2.2.1 1) p1 (K.2.2.1 1).length ∧ X1 = X ∧ M1 = si M 100 0 ∧ K1 = K)) 0 0 A := by
  refine met_ofW [(0, .ref (ad 42)), (1, .int p1)] (by decide +kernel) (Nat.le_of_ble_eq_true rfl) rfl ?_
  intro G C hl hR hL hD hcy hA had hsa hr hQ
  subst hD hcy hA had hsa hl
  refine g_aload_n C dX11_logged_0 0 rfl ?_
  refine g_iconst C dX11_logged_1 (v := 0) (by decide) ?_
  refine pf_X11_thrown C tw1243 dX11_logged_2 ?_
  refine g_iconst C dX11_logged_5 (v := 0) (by decide) ?_
  refine g_istore_n C dX11_logged_6 (L' := [(2, .int 0), (0, .ref (gad G 42)), (1, .int p1)]) rfl (by rw [hL]; decide) ?_
  refine g_iconst C dX11_logged_7 (v := 0) (by decide) ?_
  refine g_istore_n C dX11_logged_8 (L' := [(3, .int 0), (2, .int 0), (0, .ref (gad G 42)), (1, .int p1)]) rfl (by rw [hL]; decide) ?_
  have lp9 : ∀ (n i : Nat) (a : Int32) (hi : i + n = (K.2.2.1 1).length) (ha : a = tm_of (K.2.2.1 1) p1 i), GH G (WX G X (si M 100 0) K) [(0, .ref (gad G 42)), (1, .int p1), (2, .int a), (3, .int (nI i))] 0 0 9 [] := by
    intro n
    induction n with
    | zero =>
      intro i a hi ha
      obtain rfl : i = (K.2.2.1 1).length := by omega
      refine g_iload_n C dX11_logged_9 3 rfl ?_
      refine g_aload_n C dX11_logged_10 0 rfl ?_
      refine gf_X11_log C tw1292 dX11_logged_11 ?_
      refine g_callViW C dX11_logged_14 (c_lenW1 _ _ _ _ _ _ _ _ _ hcap) tw1722 tw524 tw525 tw13 tw526 (rv_J4_1 C) rfl ⟨by decide +kernel, by decide +kernel, rfl⟩ ⟨rfl, rfl⟩ (by rw [hR]; decide) (Nat.le_of_ble_eq_true rfl) (by rw [hR]; decide) (fun r_1 X1 M1 K1 h_2 => ?_)
      obtain ⟨rfl, hX1, hM1, hK1⟩ := h_2
      subst X1 M1 K1
      refine g_icmp_ge C dX11_logged_17 (tgt := 46) (by decide) (fun c_17 => ?_) (fun c_17 => absurd (nI_le (a := (K.2.2.1 1).length) (b := (K.2.2.1 1).length) (Nat.le_refl _) (by omega)) c_17)
      refine g_iload_n C dX11_logged_46 2 rfl ?_
      refine g_iretW C hr hQ (Nat.le_refl _) (Nat.le_refl _) dX11_logged_47 ?_
      exact ⟨(by first | with_reducible rfl | (subst ha; first | with_reducible rfl | (simp only [sa_ap, si_ap, si_sa, sa_sa, sa_3, sa_4, sa_5, sa_6, sa_7, sa_8, tm_of, up_us, up_up, xs_b]; done) | (simp [sa_ap, si_ap, si_sa, sa_sa, sa_3, sa_4, sa_5, sa_6, sa_7, sa_8, tm_of, up_us, up_up, xs_b]; done))), (by first | with_reducible rfl | (subst ha; first | with_reducible rfl | (simp only [sa_ap, si_ap, si_sa, sa_sa, sa_3, sa_4, sa_5, sa_6, sa_7, sa_8, tm_of, up_us, up_up, xs_b]; done) | (simp [sa_ap, si_ap, si_sa, sa_sa, sa_3, sa_4, sa_5, sa_6, sa_7, sa_8, tm_of, up_us, up_up, xs_b]; done))), rfl, rfl⟩
    | succ n ih =>
      intro i a hi ha
      refine g_iload_n C dX11_logged_9 3 rfl ?_
      refine g_aload_n C dX11_logged_10 0 rfl ?_
      refine gf_X11_log C tw1292 dX11_logged_11 ?_
      refine g_callViW C dX11_logged_14 (c_lenW1 _ _ _ _ _ _ _ _ _ hcap) tw1722 tw524 tw525 tw13 tw526 (rv_J4_1 C) rfl ⟨by decide +kernel, by decide +kernel, rfl⟩ ⟨rfl, rfl⟩ (by rw [hR]; decide) (Nat.le_of_ble_eq_true rfl) (by rw [hR]; decide) (fun r_3 X1 M1 K1 h_4 => ?_)
      obtain ⟨rfl, hX1, hM1, hK1⟩ := h_4
      subst X1 M1 K1
      refine g_icmp_ge C dX11_logged_17 (tgt := 46) (by decide) (fun c_17 => absurd c_17 (nI_ge (a := i) (b := (K.2.2.1 1).length) (by omega) (by omega))) (fun c_17 => ?_)
      refine g_iload_n C dX11_logged_20 2 rfl ?_
      refine g_aload_n C dX11_logged_21 0 rfl ?_
      refine gf_X11_log C tw1292 dX11_logged_22 ?_
      refine g_iload_n C dX11_logged_25 3 rfl ?_
      refine g_callViW C dX11_logged_26 (c_chW1 _ _ _ _ _ _ _ _ _ i (by omega) (by omega)) tw1727 tw540 tw541 tw13 tw542 (rv_J4_1 C) rfl ⟨by decide +kernel, by decide +kernel, rfl⟩ ⟨rfl, rfl⟩ (by rw [hR]; decide) (Nat.le_of_ble_eq_true rfl) (by rw [hR]; decide) (fun r_5 X1 M1 K1 h_6 => ?_)
      obtain ⟨ech, hX1, hM1, hK1⟩ := h_6
      subst X1 M1 K1
      rw [List.getD_eq_getElem?_getD] at ech
      refine g_iload_n C dX11_logged_29 1 rfl ?_
      refine g_icmp_ne C dX11_logged_30 (tgt := 37) (by decide) (fun c_30 => ?_) (fun c_30 => ?_)
      · try simp only [sa_ap, si_ap, reduceIte, Nat.reduceEqDiff, up_us, lg_cmp_lt, lg_cmp_gt, lg_cmp_le, lg_cmp_ge] at c_30
        rw [ech] at c_30
        refine g_iconst C dX11_logged_37 (v := 0) (by decide) ?_
        refine g_iadd C dX11_logged_38 ?_
        refine g_namei (fun v_7 ev_7 => ?_)
        refine g_istore_n C dX11_logged_39 (L' := [(2, .int v_7), (0, .ref (gad G 42)), (1, .int p1), (3, .int (nI i))]) rfl (by rw [hL]; decide) ?_
        refine g_iinc C dX11_logged_40 3 rfl (v := nI (i + 1)) (nI_1 _) (L' := [(3, .int (nI (i + 1))), (2, .int v_7), (0, .ref (gad G 42)), (1, .int p1)]) rfl (by rw [hL]; decide) ?_
        refine g_goto C dX11_logged_43 (tgt := 9) (by decide) ?_
        exact g_sub [2, 3, 1, 0] rfl (g_M (by first | with_reducible rfl | (subst ha ev_7; first | with_reducible rfl | (simp only [sa_ap, si_ap, si_sa, sa_sa, sa_3, sa_4, sa_5, sa_6, sa_7, sa_8, tm_of, up_us, up_up, xs_b, c_30]; done) | (simp [sa_ap, si_ap, si_sa, sa_sa, sa_3, sa_4, sa_5, sa_6, sa_7, sa_8, tm_of, up_us, up_up, xs_b, c_30]; done))) (ih (i + 1) _ (by omega) (by first | with_reducible rfl | (subst ha ev_7; first | with_reducible rfl | (simp only [sa_ap, si_ap, si_sa, sa_sa, sa_3, sa_4, sa_5, sa_6, sa_7, sa_8, tm_of, up_us, up_up, xs_b, c_30]; done) | (simp [sa_ap, si_ap, si_sa, sa_sa, sa_3, sa_4, sa_5, sa_6, sa_7, sa_8, tm_of, up_us, up_up, xs_b, c_30]; done)))))
      · try simp only [sa_ap, si_ap, reduceIte, Nat.reduceEqDiff, up_us, lg_cmp_lt, lg_cmp_gt, lg_cmp_le, lg_cmp_ge] at c_30
        rw [ech] at c_30
        refine g_iconst C dX11_logged_33 (v := 1) (by decide) ?_
        refine g_goto C dX11_logged_34 (tgt := 38) (by decide) ?_
        refine g_iadd C dX11_logged_38 ?_
        refine g_namei (fun v_8 ev_8 => ?_)
        refine g_istore_n C dX11_logged_39 (L' := [(2, .int v_8), (0, .ref (gad G 42)), (1, .int p1), (3, .int (nI i))]) rfl (by rw [hL]; decide) ?_
        refine g_iinc C dX11_logged_40 3 rfl (v := nI (i + 1)) (nI_1 _) (L' := [(3, .int (nI (i + 1))), (2, .int v_8), (0, .ref (gad G 42)), (1, .int p1)]) rfl (by rw [hL]; decide) ?_
        refine g_goto C dX11_logged_43 (tgt := 9) (by decide) ?_
        exact g_sub [2, 3, 1, 0] rfl (g_M (by first | with_reducible rfl | (subst ha ev_8; first | with_reducible rfl | (simp only [sa_ap, si_ap, si_sa, sa_sa, sa_3, sa_4, sa_5, sa_6, sa_7, sa_8, tm_of, up_us, up_up, xs_b, c_30]; done) | (simp [sa_ap, si_ap, si_sa, sa_sa, sa_3, sa_4, sa_5, sa_6, sa_7, sa_8, tm_of, up_us, up_up, xs_b, c_30]; done))) (ih (i + 1) _ (by omega) (by first | with_reducible rfl | (subst ha ev_8; first | with_reducible rfl | (simp only [sa_ap, si_ap, si_sa, sa_sa, sa_3, sa_4, sa_5, sa_6, sa_7, sa_8, tm_of, up_us, up_up, xs_b, c_30]; done) | (simp [sa_ap, si_ap, si_sa, sa_sa, sa_3, sa_4, sa_5, sa_6, sa_7, sa_8, tm_of, up_us, up_up, xs_b, c_30]; done)))))
  exact g_sub [2, 3, 1, 0] rfl (g_M rfl (lp9 ((K.2.2.1 1).length) 0 _ (by omega) (by first | with_reducible rfl | (first | with_reducible rfl | (simp only [sa_ap, si_ap, si_sa, sa_sa, sa_3, sa_4, sa_5, sa_6, sa_7, sa_8, tm_of, up_us, up_up, xs_b]; done) | (simp [sa_ap, si_ap, si_sa, sa_sa, sa_3, sa_4, sa_5, sa_6, sa_7, sa_8, tm_of, up_us, up_up, xs_b]; done)))))

set_option maxHeartbeats 400000 in
set_option maxRecDepth 100000 in
/-- logAt.logAt -/
theorem c_X11_logAt (l : Launch) (D : va_G) (cy : Nat → ClassId) (A : Nat → Prop) (ad sad : Nat → Nat) (X M : XF) (K : KF) (p1 : Int32) (hcap : K.2.1 1 < 2 ^ 26) (hlen : (K.2.2.1 1).length < 2 ^ 26) (hch : ∀ j : Nat, (K.2.2.1 1).getD j 0 < 128) : Met l yX11_logAt (wsA yX11_logAt cX11_logAt 2 (some .char)) ({ frames := 4, cells := 0, slots := 0, locals := 88 }) (PcW D cy A ad sad X M K [.ref (ad 42), .int p1]) (QiW D cy A ad (fun r X1 M1 K1 => r = (if md_no p1 (nI (K.2.2.1 1).length) = 0 then nI ((K.2.2.1 1).getD p1.toNatClampNeg 0) else 0) ∧ X1 = X ∧ M1 = (if md_no p1 (nI (K.2.2.1 1).length) = 0 then si M 100 0 else si M 100 (md_no p1 (nI (K.2.2.1 1).length))) ∧ K1 = K)) 0 0 A := by
  refine met_ofW [(0, .ref (ad 42)), (1, .int p1)] (by decide +kernel) (Nat.le_of_ble_eq_true rfl) rfl ?_
  intro G C hl hR hL hD hcy hA had hsa hr hQ
  subst hD hcy hA had hsa hl
  refine g_aload_n C dX11_logAt_0 0 rfl ?_
  refine g_iconst C dX11_logAt_1 (v := 0) (by decide) ?_
  refine pf_X11_thrown C tw1243 dX11_logAt_2 ?_
  refine g_aload_n C dX11_logAt_5 0 rfl ?_
  refine g_iload_n C dX11_logAt_6 1 rfl ?_
  refine g_i2l C dX11_logAt_7 ?_
  refine g_lconst C dX11_logAt_8 (v := 0) (by decide) ?_
  refine g_aload_n C dX11_logAt_9 0 rfl ?_
  refine gf_X11_log C tw1292 dX11_logAt_10 ?_
  refine g_callViW C dX11_logAt_13 (c_lenW1 _ _ _ _ _ _ _ _ _ hcap) tw1722 tw524 tw525 tw13 tw526 (rv_J4_1 C) rfl ⟨by decide +kernel, by decide +kernel, rfl⟩ ⟨rfl, rfl⟩ (by rw [hR]; decide) (Nat.le_of_ble_eq_true rfl) (by rw [hR]; decide) (fun r_1 X1 M1 K1 h_2 => ?_)
  obtain ⟨rfl, hX1, hM1, hK1⟩ := h_2
  subst X1 M1 K1
  refine g_iconst C dX11_logAt_16 (v := 1) (by decide) ?_
  refine g_isub C dX11_logAt_17 ?_
  refine g_i2l C dX11_logAt_18 ?_
  refine g_callSiW C dX11_logAt_19 (c_X11_in _ _ _ _ _ _ _ _ _ _ _ _) tw1406 tw1407 tw16 tw1408 rfl ⟨by decide +kernel, by decide +kernel, rfl⟩ ⟨rfl, rfl⟩ (by rw [hR]; decide) (Nat.le_of_ble_eq_true rfl) (by rw [hR]; decide) (fun r_3 X1 M1 K1 h_4 => ?_)
  obtain ⟨er_3, hX1, hM1, hK1⟩ := h_4
  subst X1 M1 K1
  try simp only [sa_ap, si_ap, reduceIte, Nat.reduceEqDiff] at er_3
  have c_n := er_3
  refine g_if_ne C dX11_logAt_22 (tgt := 29) (by decide) (fun c_22 => ?_) (fun c_22 => ?_)
  · try simp only [sa_ap, si_ap, reduceIte, Nat.reduceEqDiff, up_us, lg_cmp_lt, lg_cmp_gt, lg_cmp_le, lg_cmp_ge] at c_22
    rw [c_n] at c_22
    obtain ⟨j, hj, rfl⟩ := md_no_ixL (p := p1) (s := nI (K.2.2.1 1).length) (z := (K.2.2.1 1).length) rfl (by omega) (by unfold md_no; exact if_neg c_22)
    have c_clj : (nI j).toNatClampNeg = j := nI_clamp (by omega)
    refine g_iconst C dX11_logAt_29 (v := 0) (by decide) ?_
    refine g_iconst C dX11_logAt_30 (v := 1) (by decide) ?_
    refine g_callViW C dX11_logAt_31 (c_X11_fails_0 _ _ _ _ _ _ _ _ _ _ (by rfl)) tw1412 tw1414 tp14 tw16 tw1415 (rv_X11 C) rfl ⟨by decide +kernel, by decide +kernel, rfl⟩ ⟨rfl, rfl⟩ (by rw [hR]; decide) (Nat.le_of_ble_eq_true rfl) (by rw [hR]; decide) (fun r_5 X1 M1 K1 h_6 => ?_)
    obtain ⟨rfl, hX1, hM1, hK1⟩ := h_6
    subst X1 M1 K1
    refine g_if_eq C dX11_logAt_34 (tgt := 41) (by decide) (fun c_34 => ?_) (fun c_34 => absurd (by decide) c_34)
    refine g_aload_n C dX11_logAt_41 0 rfl ?_
    refine gf_X11_log C tw1292 dX11_logAt_42 ?_
    refine g_iload_n C dX11_logAt_45 1 rfl ?_
    refine g_callViW C dX11_logAt_46 (c_chW1 _ _ _ _ _ _ _ _ _ j hj hcap) tw1727 tw540 tw541 tw13 tw542 (rv_J4_1 C) rfl ⟨by decide +kernel, by decide +kernel, rfl⟩ ⟨rfl, rfl⟩ (by rw [hR]; decide) (Nat.le_of_ble_eq_true rfl) (by rw [hR]; decide) (fun r_7 X1 M1 K1 h_8 => ?_)
    obtain ⟨rfl, hX1, hM1, hK1⟩ := h_8
    subst X1 M1 K1
    refine g_zretW C hr (by first | decide | exact ch_nar (hch _)) hQ (Nat.le_refl _) (Nat.le_refl _) dX11_logAt_49 ?_
    exact ⟨(by first | with_reducible rfl | (subst er_3; first | with_reducible rfl | (simp only [sa_ap, si_ap, si_sa, sa_sa, sa_3, sa_4, sa_5, sa_6, sa_7, sa_8, md_no, up_us, up_up, xs_b, c_22, c_clj]; done) | (simp [sa_ap, si_ap, si_sa, sa_sa, sa_3, sa_4, sa_5, sa_6, sa_7, sa_8, md_no, up_us, up_up, xs_b, c_22, c_clj]; done))), rfl, (by first | with_reducible rfl | (subst er_3; first | with_reducible rfl | (simp only [sa_ap, si_ap, si_sa, sa_sa, sa_3, sa_4, sa_5, sa_6, sa_7, sa_8, md_no, up_us, up_up, xs_b, c_22, c_clj]; done) | (simp [sa_ap, si_ap, si_sa, sa_sa, sa_3, sa_4, sa_5, sa_6, sa_7, sa_8, md_no, up_us, up_up, xs_b, c_22, c_clj]; done))), rfl⟩
  · try simp only [sa_ap, si_ap, reduceIte, Nat.reduceEqDiff, up_us, lg_cmp_lt, lg_cmp_gt, lg_cmp_le, lg_cmp_ge] at c_22
    rw [c_n] at c_22
    refine g_iconst C dX11_logAt_25 (v := 1) (by decide) ?_
    refine g_goto C dX11_logAt_26 (tgt := 30) (by decide) ?_
    refine g_iconst C dX11_logAt_30 (v := 1) (by decide) ?_
    refine g_callViW C dX11_logAt_31 (c_X11_fails_1 _ _ _ _ _ _ _ _ _ _ (by rfl) (by decide)) tw1412 tw1414 tp14 tw16 tw1415 (rv_X11 C) rfl ⟨by decide +kernel, by decide +kernel, rfl⟩ ⟨rfl, rfl⟩ (by rw [hR]; decide) (Nat.le_of_ble_eq_true rfl) (by rw [hR]; decide) (fun r_9 X1 M1 K1 h_10 => ?_)
    obtain ⟨rfl, hX1, hM1, hK1⟩ := h_10
    subst X1 M1 K1
    refine g_if_eq C dX11_logAt_34 (tgt := 41) (by decide) (fun c_34 => absurd c_34 (by decide)) (fun c_34 => ?_)
    refine g_iconst C dX11_logAt_37 (v := 0) (by decide) ?_
    refine g_goto C dX11_logAt_38 (tgt := 49) (by decide) ?_
    refine g_zretW C hr (by first | decide | exact ch_nar (hch _)) hQ (Nat.le_refl _) (Nat.le_refl _) dX11_logAt_49 ?_
    exact ⟨(by first | with_reducible rfl | (subst er_3; first | with_reducible rfl | (simp only [sa_ap, si_ap, si_sa, sa_sa, sa_3, sa_4, sa_5, sa_6, sa_7, sa_8, md_no, up_us, up_up, xs_b, c_22]; done) | (simp [sa_ap, si_ap, si_sa, sa_sa, sa_3, sa_4, sa_5, sa_6, sa_7, sa_8, md_no, up_us, up_up, xs_b, c_22]; done))), rfl, (by first | with_reducible rfl | (subst er_3; first | with_reducible rfl | (simp only [sa_ap, si_ap, si_sa, sa_sa, sa_3, sa_4, sa_5, sa_6, sa_7, sa_8, md_no, up_us, up_up, xs_b, c_22]; done) | (simp [sa_ap, si_ap, si_sa, sa_sa, sa_3, sa_4, sa_5, sa_6, sa_7, sa_8, md_no, up_us, up_up, xs_b, c_22]; done))), rfl⟩

set_option maxHeartbeats 400000 in
set_option maxRecDepth 100000 in
/-- checksum.checksum -/
theorem c_X11_checksum (l : Launch) (D : va_G) (cy : Nat → ClassId) (A : Nat → Prop) (ad sad : Nat → Nat) (X M : XF) (K : KF) (z : Nat) (hz : M 117 0 = nI z) (hzl : z ≤ 12) (hcap : K.2.1 1 < 2 ^ 26) (hlen : (K.2.2.1 1).length < 2 ^ 26) : Met l yX11_checksum (wsA yX11_checksum cX11_checksum 4 (some .long)) ({ frames := 2, cells := 0, slots := 0, locals := 40 }) (PcW D cy A ad sad X M K [.ref (ad 42)]) (QlW D cy A ad (fun r X1 M1 K1 => r = mk_X M z (K.2.2.1 1).length ∧ X1 = X ∧ M1 = si M 100 0 ∧ K1 = K)) 0 0 A := by
  refine met_ofW [(0, .ref (ad 42))] (by decide +kernel) (Nat.le_of_ble_eq_true rfl) rfl ?_
  intro G C hl hR hL hD hcy hA had hsa hr hQ
  subst hD hcy hA had hsa hl
  refine g_aload_n C dX11_checksum_0 0 rfl ?_
  refine g_iconst C dX11_checksum_1 (v := 0) (by decide) ?_
  refine pf_X11_thrown C tw1243 dX11_checksum_2 ?_
  refine g_ldc2 C dX11_checksum_5 tw1736 ?_
  refine g_ldc2 C dX11_checksum_8 tw1737 ?_
  refine g_aload_n C dX11_checksum_11 0 rfl ?_
  refine gf_X11_second C tw1244 dX11_checksum_12 ?_
  refine g_i2l C dX11_checksum_15 ?_
  refine g_ladd C dX11_checksum_16 ?_
  refine g_lmul C dX11_checksum_17 ?_
  refine g_aload_n C dX11_checksum_18 0 rfl ?_
  refine gf_X11_wasBegun C tw1246 dX11_checksum_19 ?_
  refine g_if_eq C dX11_checksum_22 (tgt := 32) (by decide) (fun c_22 => ?_) (fun c_22 => ?_)
  · try simp only [sa_ap, si_ap, reduceIte, Nat.reduceEqDiff, up_us, lg_cmp_lt, lg_cmp_gt, lg_cmp_le, lg_cmp_ge] at c_22
    refine g_iconst C dX11_checksum_32 (v := 0) (by decide) ?_
    refine g_i2l C dX11_checksum_33 ?_
    refine g_ladd C dX11_checksum_34 ?_
    refine g_topl (y := 31 * (217 + (M 101 0).toInt64) + (if M 103 0 = 0 then 0 else M 104 0).toInt64) (by first | (rw [if_pos c_22] <;> rfl) | (rw [if_neg c_22] <;> rfl)) ?_
    refine g_lstore_n C dX11_checksum_35 (L' := [(1, .long (31 * (217 + (M 101 0).toInt64) + (if M 103 0 = 0 then 0 else M 104 0).toInt64)), (0, .ref (gad G 42))]) rfl (by rw [hL]; decide) ?_
    refine g_iconst C dX11_checksum_36 (v := 0) (by decide) ?_
    refine g_istore_n C dX11_checksum_37 (L' := [(3, .int 0), (1, .long (31 * (217 + (M 101 0).toInt64) + (if M 103 0 = 0 then 0 else M 104 0).toInt64)), (0, .ref (gad G 42))]) rfl (by rw [hL]; decide) ?_
    have lp38 : ∀ (n i : Nat) (a : Int64) (hi : i + n = 3) (ha : a = ck_f (M 46) (31 * (217 + (M 101 0).toInt64) + (if M 103 0 = 0 then 0 else M 104 0).toInt64) i), GH G (WX G X (si M 100 0) K) [(0, .ref (gad G 42)), (1, .long a), (3, .int (nI i))] 0 0 38 [] := by
      intro n
      induction n with
      | zero =>
        intro i a hi ha
        obtain rfl : i = 3 := by omega
        refine g_iload_n C dX11_checksum_38 2 rfl ?_
        refine g_iconst C dX11_checksum_39 (v := 3) (by decide) ?_
        refine g_icmp_ge C dX11_checksum_40 (tgt := 63) (by decide) (fun c_40 => ?_) (fun c_40 => absurd (nI_le (a := 3) (b := 3) (Nat.le_refl _) (by omega)) c_40)
        refine g_iconst C dX11_checksum_63 (v := 0) (by decide) ?_
        refine g_istore_n C dX11_checksum_64 (L' := [(3, .int 0), (0, .ref (gad G 42)), (1, .long a)]) rfl (by rw [hL]; decide) ?_
        have lp65 : ∀ (n i : Nat) (b : Int64) (hi : i + n = z) (hb : b = ck_f (M 68) (ck_f (M 46) (31 * (217 + (M 101 0).toInt64) + (if M 103 0 = 0 then 0 else M 104 0).toInt64) 3) i), GH G (WX G X (si M 100 0) K) [(0, .ref (gad G 42)), (1, .long b), (3, .int (nI i))] 0 0 65 [] := by
          intro n
          induction n with
          | zero =>
            intro i b hi hb
            obtain rfl : z = i := by omega
            refine g_iload_n C dX11_checksum_65 2 rfl ?_
            refine g_aload_n C dX11_checksum_66 0 rfl ?_
            refine gf_X11_rules C tw1282 dX11_checksum_67 ?_
            refine g_topi hz ?_
            refine g_icmp_ge C dX11_checksum_70 (tgt := 93) (by decide) (fun c_70 => ?_) (fun c_70 => absurd (nI_le (a := z) (b := z) (Nat.le_refl _) (by omega)) c_70)
            refine g_ldc2 C dX11_checksum_93 tw1736 ?_
            refine g_lload_n C dX11_checksum_96 1 rfl ?_
            refine g_lmul C dX11_checksum_97 ?_
            refine g_aload_n C dX11_checksum_98 0 rfl ?_
            refine gf_X11_log C tw1292 dX11_checksum_99 ?_
            refine g_callViW C dX11_checksum_102 (c_lenW1 _ _ _ _ _ _ _ _ _ hcap) tw1722 tw524 tw525 tw13 tw526 (rv_J4_1 C) rfl ⟨by decide +kernel, by decide +kernel, rfl⟩ ⟨rfl, rfl⟩ (by rw [hR]; decide) (Nat.le_of_ble_eq_true rfl) (by rw [hR]; decide) (fun r_1 X1 M1 K1 h_2 => ?_)
            obtain ⟨rfl, hX1, hM1, hK1⟩ := h_2
            subst X1 M1 K1
            refine g_i2l C dX11_checksum_105 ?_
            refine g_ladd C dX11_checksum_106 ?_
            refine g_lretW C hr hQ (Nat.le_refl _) (Nat.le_refl _) dX11_checksum_107 ?_
            exact ⟨(by first | with_reducible rfl | (subst ha hb; first | with_reducible rfl | (simp only [sa_ap, si_ap, si_sa, sa_sa, sa_3, sa_4, sa_5, sa_6, sa_7, sa_8, mk_X, ck_f, up_us, up_up, xs_b, c_22]; done) | (simp [sa_ap, si_ap, si_sa, sa_sa, sa_3, sa_4, sa_5, sa_6, sa_7, sa_8, mk_X, ck_f, up_us, up_up, xs_b, c_22]; done))), (by first | with_reducible rfl | (subst ha hb; first | with_reducible rfl | (simp only [sa_ap, si_ap, si_sa, sa_sa, sa_3, sa_4, sa_5, sa_6, sa_7, sa_8, mk_X, ck_f, up_us, up_up, xs_b, c_22]; done) | (simp [sa_ap, si_ap, si_sa, sa_sa, sa_3, sa_4, sa_5, sa_6, sa_7, sa_8, mk_X, ck_f, up_us, up_up, xs_b, c_22]; done))), rfl, rfl⟩
          | succ n ih =>
            intro i b hi hb
            refine g_iload_n C dX11_checksum_65 2 rfl ?_
            refine g_aload_n C dX11_checksum_66 0 rfl ?_
            refine gf_X11_rules C tw1282 dX11_checksum_67 ?_
            refine g_topi hz ?_
            refine g_icmp_ge C dX11_checksum_70 (tgt := 93) (by decide) (fun c_70 => absurd c_70 (nI_ge (a := i) (b := z) (by omega) (by omega))) (fun c_70 => ?_)
            refine g_ldc2 C dX11_checksum_73 tw1736 ?_
            refine g_lload_n C dX11_checksum_76 1 rfl ?_
            refine g_lmul C dX11_checksum_77 ?_
            refine g_aload_n C dX11_checksum_78 0 rfl ?_
            refine gf_X11_held C tw1288 dX11_checksum_79 ?_
            refine g_iload_n C dX11_checksum_82 2 rfl ?_
            refine al_68 C (by omega) dX11_checksum_83 ?_
            refine g_i2l C dX11_checksum_84 ?_
            refine g_ladd C dX11_checksum_85 ?_
            refine g_namel (fun v_3 ev_3 => ?_)
            refine g_lstore_n C dX11_checksum_86 (L' := [(1, .long v_3), (0, .ref (gad G 42)), (3, .int (nI i))]) rfl (by rw [hL]; decide) ?_
            refine g_iinc C dX11_checksum_87 2 rfl (v := nI (i + 1)) (nI_1 _) (L' := [(3, .int (nI (i + 1))), (1, .long v_3), (0, .ref (gad G 42))]) rfl (by rw [hL]; decide) ?_
            refine g_goto C dX11_checksum_90 (tgt := 65) (by decide) ?_
            exact g_sub [2, 1, 0] rfl (g_M (by first | with_reducible rfl | (subst ha hb ev_3; first | with_reducible rfl | (simp only [sa_ap, si_ap, si_sa, sa_sa, sa_3, sa_4, sa_5, sa_6, sa_7, sa_8, mk_X, ck_f, up_us, up_up, xs_b, c_22]; done) | (simp [sa_ap, si_ap, si_sa, sa_sa, sa_3, sa_4, sa_5, sa_6, sa_7, sa_8, mk_X, ck_f, up_us, up_up, xs_b, c_22]; done))) (ih (i + 1) _ (by omega) (by first | with_reducible rfl | (subst ha hb ev_3; first | with_reducible rfl | (simp only [sa_ap, si_ap, si_sa, sa_sa, sa_3, sa_4, sa_5, sa_6, sa_7, sa_8, mk_X, ck_f, up_us, up_up, xs_b, c_22]; done) | (simp [sa_ap, si_ap, si_sa, sa_sa, sa_3, sa_4, sa_5, sa_6, sa_7, sa_8, mk_X, ck_f, up_us, up_up, xs_b, c_22]; done)))))
        exact g_sub [1, 2, 0] rfl (g_M rfl (lp65 (z) 0 _ (by omega) (by first | with_reducible rfl | (subst ha; first | with_reducible rfl | (simp only [sa_ap, si_ap, si_sa, sa_sa, sa_3, sa_4, sa_5, sa_6, sa_7, sa_8, mk_X, ck_f, up_us, up_up, xs_b, c_22]; done) | (simp [sa_ap, si_ap, si_sa, sa_sa, sa_3, sa_4, sa_5, sa_6, sa_7, sa_8, mk_X, ck_f, up_us, up_up, xs_b, c_22]; done)))))
      | succ n ih =>
        intro i a hi ha
        refine g_iload_n C dX11_checksum_38 2 rfl ?_
        refine g_iconst C dX11_checksum_39 (v := 3) (by decide) ?_
        refine g_icmp_ge C dX11_checksum_40 (tgt := 63) (by decide) (fun c_40 => absurd c_40 (nI_ge (a := i) (b := 3) (by omega) (by omega))) (fun c_40 => ?_)
        refine g_ldc2 C dX11_checksum_43 tw1736 ?_
        refine g_lload_n C dX11_checksum_46 1 rfl ?_
        refine g_lmul C dX11_checksum_47 ?_
        refine g_aload_n C dX11_checksum_48 0 rfl ?_
        refine gf_X11_inTank C tw1261 dX11_checksum_49 ?_
        refine g_iload_n C dX11_checksum_52 2 rfl ?_
        refine al_46 C (by omega) dX11_checksum_53 ?_
        refine g_i2l C dX11_checksum_54 ?_
        refine g_ladd C dX11_checksum_55 ?_
        refine g_namel (fun v_4 ev_4 => ?_)
        refine g_lstore_n C dX11_checksum_56 (L' := [(1, .long v_4), (0, .ref (gad G 42)), (3, .int (nI i))]) rfl (by rw [hL]; decide) ?_
        refine g_iinc C dX11_checksum_57 2 rfl (v := nI (i + 1)) (nI_1 _) (L' := [(3, .int (nI (i + 1))), (1, .long v_4), (0, .ref (gad G 42))]) rfl (by rw [hL]; decide) ?_
        refine g_goto C dX11_checksum_60 (tgt := 38) (by decide) ?_
        exact g_sub [2, 1, 0] rfl (g_M (by first | with_reducible rfl | (subst ha ev_4; first | with_reducible rfl | (simp only [sa_ap, si_ap, si_sa, sa_sa, sa_3, sa_4, sa_5, sa_6, sa_7, sa_8, mk_X, ck_f, up_us, up_up, xs_b, c_22]; done) | (simp [sa_ap, si_ap, si_sa, sa_sa, sa_3, sa_4, sa_5, sa_6, sa_7, sa_8, mk_X, ck_f, up_us, up_up, xs_b, c_22]; done))) (ih (i + 1) _ (by omega) (by first | with_reducible rfl | (subst ha ev_4; first | with_reducible rfl | (simp only [sa_ap, si_ap, si_sa, sa_sa, sa_3, sa_4, sa_5, sa_6, sa_7, sa_8, mk_X, ck_f, up_us, up_up, xs_b, c_22]; done) | (simp [sa_ap, si_ap, si_sa, sa_sa, sa_3, sa_4, sa_5, sa_6, sa_7, sa_8, mk_X, ck_f, up_us, up_up, xs_b, c_22]; done)))))
    exact g_sub [2, 1, 0] rfl (g_M rfl (lp38 (3) 0 _ (by omega) (by first | with_reducible rfl | (first | with_reducible rfl | (simp only [sa_ap, si_ap, si_sa, sa_sa, sa_3, sa_4, sa_5, sa_6, sa_7, sa_8, mk_X, ck_f, up_us, up_up, xs_b, c_22]; done) | (simp [sa_ap, si_ap, si_sa, sa_sa, sa_3, sa_4, sa_5, sa_6, sa_7, sa_8, mk_X, ck_f, up_us, up_up, xs_b, c_22]; done)))))
  · try simp only [sa_ap, si_ap, reduceIte, Nat.reduceEqDiff, up_us, lg_cmp_lt, lg_cmp_gt, lg_cmp_le, lg_cmp_ge] at c_22
    refine g_aload_n C dX11_checksum_25 0 rfl ?_
    refine gf_X11_count C tw1247 dX11_checksum_26 ?_
    refine g_goto C dX11_checksum_29 (tgt := 33) (by decide) ?_
    refine g_i2l C dX11_checksum_33 ?_
    refine g_ladd C dX11_checksum_34 ?_
    refine g_topl (y := 31 * (217 + (M 101 0).toInt64) + (if M 103 0 = 0 then 0 else M 104 0).toInt64) (by first | (rw [if_pos c_22] <;> rfl) | (rw [if_neg c_22] <;> rfl)) ?_
    refine g_lstore_n C dX11_checksum_35 (L' := [(1, .long (31 * (217 + (M 101 0).toInt64) + (if M 103 0 = 0 then 0 else M 104 0).toInt64)), (0, .ref (gad G 42))]) rfl (by rw [hL]; decide) ?_
    refine g_iconst C dX11_checksum_36 (v := 0) (by decide) ?_
    refine g_istore_n C dX11_checksum_37 (L' := [(3, .int 0), (1, .long (31 * (217 + (M 101 0).toInt64) + (if M 103 0 = 0 then 0 else M 104 0).toInt64)), (0, .ref (gad G 42))]) rfl (by rw [hL]; decide) ?_
    have lp38 : ∀ (n i : Nat) (a : Int64) (hi : i + n = 3) (ha : a = ck_f (M 46) (31 * (217 + (M 101 0).toInt64) + (if M 103 0 = 0 then 0 else M 104 0).toInt64) i), GH G (WX G X (si M 100 0) K) [(0, .ref (gad G 42)), (1, .long a), (3, .int (nI i))] 0 0 38 [] := by
      intro n
      induction n with
      | zero =>
        intro i a hi ha
        obtain rfl : i = 3 := by omega
        refine g_iload_n C dX11_checksum_38 2 rfl ?_
        refine g_iconst C dX11_checksum_39 (v := 3) (by decide) ?_
        refine g_icmp_ge C dX11_checksum_40 (tgt := 63) (by decide) (fun c_40 => ?_) (fun c_40 => absurd (nI_le (a := 3) (b := 3) (Nat.le_refl _) (by omega)) c_40)
        refine g_iconst C dX11_checksum_63 (v := 0) (by decide) ?_
        refine g_istore_n C dX11_checksum_64 (L' := [(3, .int 0), (0, .ref (gad G 42)), (1, .long a)]) rfl (by rw [hL]; decide) ?_
        have lp65 : ∀ (n i : Nat) (b : Int64) (hi : i + n = z) (hb : b = ck_f (M 68) (ck_f (M 46) (31 * (217 + (M 101 0).toInt64) + (if M 103 0 = 0 then 0 else M 104 0).toInt64) 3) i), GH G (WX G X (si M 100 0) K) [(0, .ref (gad G 42)), (1, .long b), (3, .int (nI i))] 0 0 65 [] := by
          intro n
          induction n with
          | zero =>
            intro i b hi hb
            obtain rfl : z = i := by omega
            refine g_iload_n C dX11_checksum_65 2 rfl ?_
            refine g_aload_n C dX11_checksum_66 0 rfl ?_
            refine gf_X11_rules C tw1282 dX11_checksum_67 ?_
            refine g_topi hz ?_
            refine g_icmp_ge C dX11_checksum_70 (tgt := 93) (by decide) (fun c_70 => ?_) (fun c_70 => absurd (nI_le (a := z) (b := z) (Nat.le_refl _) (by omega)) c_70)
            refine g_ldc2 C dX11_checksum_93 tw1736 ?_
            refine g_lload_n C dX11_checksum_96 1 rfl ?_
            refine g_lmul C dX11_checksum_97 ?_
            refine g_aload_n C dX11_checksum_98 0 rfl ?_
            refine gf_X11_log C tw1292 dX11_checksum_99 ?_
            refine g_callViW C dX11_checksum_102 (c_lenW1 _ _ _ _ _ _ _ _ _ hcap) tw1722 tw524 tw525 tw13 tw526 (rv_J4_1 C) rfl ⟨by decide +kernel, by decide +kernel, rfl⟩ ⟨rfl, rfl⟩ (by rw [hR]; decide) (Nat.le_of_ble_eq_true rfl) (by rw [hR]; decide) (fun r_5 X1 M1 K1 h_6 => ?_)
            obtain ⟨rfl, hX1, hM1, hK1⟩ := h_6
            subst X1 M1 K1
            refine g_i2l C dX11_checksum_105 ?_
            refine g_ladd C dX11_checksum_106 ?_
            refine g_lretW C hr hQ (Nat.le_refl _) (Nat.le_refl _) dX11_checksum_107 ?_
            exact ⟨(by first | with_reducible rfl | (subst ha hb; first | with_reducible rfl | (simp only [sa_ap, si_ap, si_sa, sa_sa, sa_3, sa_4, sa_5, sa_6, sa_7, sa_8, mk_X, ck_f, up_us, up_up, xs_b, c_22]; done) | (simp [sa_ap, si_ap, si_sa, sa_sa, sa_3, sa_4, sa_5, sa_6, sa_7, sa_8, mk_X, ck_f, up_us, up_up, xs_b, c_22]; done))), (by first | with_reducible rfl | (subst ha hb; first | with_reducible rfl | (simp only [sa_ap, si_ap, si_sa, sa_sa, sa_3, sa_4, sa_5, sa_6, sa_7, sa_8, mk_X, ck_f, up_us, up_up, xs_b, c_22]; done) | (simp [sa_ap, si_ap, si_sa, sa_sa, sa_3, sa_4, sa_5, sa_6, sa_7, sa_8, mk_X, ck_f, up_us, up_up, xs_b, c_22]; done))), rfl, rfl⟩
          | succ n ih =>
            intro i b hi hb
            refine g_iload_n C dX11_checksum_65 2 rfl ?_
            refine g_aload_n C dX11_checksum_66 0 rfl ?_
            refine gf_X11_rules C tw1282 dX11_checksum_67 ?_
            refine g_topi hz ?_
            refine g_icmp_ge C dX11_checksum_70 (tgt := 93) (by decide) (fun c_70 => absurd c_70 (nI_ge (a := i) (b := z) (by omega) (by omega))) (fun c_70 => ?_)
            refine g_ldc2 C dX11_checksum_73 tw1736 ?_
            refine g_lload_n C dX11_checksum_76 1 rfl ?_
            refine g_lmul C dX11_checksum_77 ?_
            refine g_aload_n C dX11_checksum_78 0 rfl ?_
            refine gf_X11_held C tw1288 dX11_checksum_79 ?_
            refine g_iload_n C dX11_checksum_82 2 rfl ?_
            refine al_68 C (by omega) dX11_checksum_83 ?_
            refine g_i2l C dX11_checksum_84 ?_
            refine g_ladd C dX11_checksum_85 ?_
            refine g_namel (fun v_7 ev_7 => ?_)
            refine g_lstore_n C dX11_checksum_86 (L' := [(1, .long v_7), (0, .ref (gad G 42)), (3, .int (nI i))]) rfl (by rw [hL]; decide) ?_
            refine g_iinc C dX11_checksum_87 2 rfl (v := nI (i + 1)) (nI_1 _) (L' := [(3, .int (nI (i + 1))), (1, .long v_7), (0, .ref (gad G 42))]) rfl (by rw [hL]; decide) ?_
            refine g_goto C dX11_checksum_90 (tgt := 65) (by decide) ?_
            exact g_sub [2, 1, 0] rfl (g_M (by first | with_reducible rfl | (subst ha hb ev_7; first | with_reducible rfl | (simp only [sa_ap, si_ap, si_sa, sa_sa, sa_3, sa_4, sa_5, sa_6, sa_7, sa_8, mk_X, ck_f, up_us, up_up, xs_b, c_22]; done) | (simp [sa_ap, si_ap, si_sa, sa_sa, sa_3, sa_4, sa_5, sa_6, sa_7, sa_8, mk_X, ck_f, up_us, up_up, xs_b, c_22]; done))) (ih (i + 1) _ (by omega) (by first | with_reducible rfl | (subst ha hb ev_7; first | with_reducible rfl | (simp only [sa_ap, si_ap, si_sa, sa_sa, sa_3, sa_4, sa_5, sa_6, sa_7, sa_8, mk_X, ck_f, up_us, up_up, xs_b, c_22]; done) | (simp [sa_ap, si_ap, si_sa, sa_sa, sa_3, sa_4, sa_5, sa_6, sa_7, sa_8, mk_X, ck_f, up_us, up_up, xs_b, c_22]; done)))))
        exact g_sub [1, 2, 0] rfl (g_M rfl (lp65 (z) 0 _ (by omega) (by first | with_reducible rfl | (subst ha; first | with_reducible rfl | (simp only [sa_ap, si_ap, si_sa, sa_sa, sa_3, sa_4, sa_5, sa_6, sa_7, sa_8, mk_X, ck_f, up_us, up_up, xs_b, c_22]; done) | (simp [sa_ap, si_ap, si_sa, sa_sa, sa_3, sa_4, sa_5, sa_6, sa_7, sa_8, mk_X, ck_f, up_us, up_up, xs_b, c_22]; done)))))
      | succ n ih =>
        intro i a hi ha
        refine g_iload_n C dX11_checksum_38 2 rfl ?_
        refine g_iconst C dX11_checksum_39 (v := 3) (by decide) ?_
        refine g_icmp_ge C dX11_checksum_40 (tgt := 63) (by decide) (fun c_40 => absurd c_40 (nI_ge (a := i) (b := 3) (by omega) (by omega))) (fun c_40 => ?_)
        refine g_ldc2 C dX11_checksum_43 tw1736 ?_
        refine g_lload_n C dX11_checksum_46 1 rfl ?_
        refine g_lmul C dX11_checksum_47 ?_
        refine g_aload_n C dX11_checksum_48 0 rfl ?_
        refine gf_X11_inTank C tw1261 dX11_checksum_49 ?_
        refine g_iload_n C dX11_checksum_52 2 rfl ?_
        refine al_46 C (by omega) dX11_checksum_53 ?_
        refine g_i2l C dX11_checksum_54 ?_
        refine g_ladd C dX11_checksum_55 ?_
        refine g_namel (fun v_8 ev_8 => ?_)
        refine g_lstore_n C dX11_checksum_56 (L' := [(1, .long v_8), (0, .ref (gad G 42)), (3, .int (nI i))]) rfl (by rw [hL]; decide) ?_
        refine g_iinc C dX11_checksum_57 2 rfl (v := nI (i + 1)) (nI_1 _) (L' := [(3, .int (nI (i + 1))), (1, .long v_8), (0, .ref (gad G 42))]) rfl (by rw [hL]; decide) ?_
        refine g_goto C dX11_checksum_60 (tgt := 38) (by decide) ?_
        exact g_sub [2, 1, 0] rfl (g_M (by first | with_reducible rfl | (subst ha ev_8; first | with_reducible rfl | (simp only [sa_ap, si_ap, si_sa, sa_sa, sa_3, sa_4, sa_5, sa_6, sa_7, sa_8, mk_X, ck_f, up_us, up_up, xs_b, c_22]; done) | (simp [sa_ap, si_ap, si_sa, sa_sa, sa_3, sa_4, sa_5, sa_6, sa_7, sa_8, mk_X, ck_f, up_us, up_up, xs_b, c_22]; done))) (ih (i + 1) _ (by omega) (by first | with_reducible rfl | (subst ha ev_8; first | with_reducible rfl | (simp only [sa_ap, si_ap, si_sa, sa_sa, sa_3, sa_4, sa_5, sa_6, sa_7, sa_8, mk_X, ck_f, up_us, up_up, xs_b, c_22]; done) | (simp [sa_ap, si_ap, si_sa, sa_sa, sa_3, sa_4, sa_5, sa_6, sa_7, sa_8, mk_X, ck_f, up_us, up_up, xs_b, c_22]; done)))))
    exact g_sub [2, 1, 0] rfl (g_M rfl (lp38 (3) 0 _ (by omega) (by first | with_reducible rfl | (first | with_reducible rfl | (simp only [sa_ap, si_ap, si_sa, sa_sa, sa_3, sa_4, sa_5, sa_6, sa_7, sa_8, mk_X, ck_f, up_us, up_up, xs_b, c_22]; done) | (simp [sa_ap, si_ap, si_sa, sa_sa, sa_3, sa_4, sa_5, sa_6, sa_7, sa_8, mk_X, ck_f, up_us, up_up, xs_b, c_22]; done)))))

