/-! the calls that do not throw -/

set_option maxHeartbeats 400000 in
set_option maxRecDepth 100000 in
/-- setTank.setTank -/
theorem n_X10_setTank (l : Launch) (D : va_G) (cy : Nat → ClassId) (A : Nat → Prop) (ad sad : Nat → Nat) (X M : XF) (K : KF) (p1 p2 p3 p4 : Int32) (hx : xk_tank p1 p2 p3 p4 = 0) : Met l yX10_setTank (wsA yX10_setTank cX10_setTank 5 (some .int)) ({ frames := 2, cells := 0, slots := 0, locals := 45 }) (PcW D cy A ad sad X M K [.ref (ad 0), .int p1, .int p2, .int p3, .int p4]) (QiW D cy A ad (fun r X1 M1 K1 => r = tk_min (X 5 p1.toNatClampNeg) p2 ∧ X1 = sa (sa (sa (sa X 2 (upd (X 2) p1.toNatClampNeg p2)) 3 (upd (X 3) p1.toNatClampNeg p3)) 4 (upd (X 4) p1.toNatClampNeg p4)) 5 (upd (X 5) p1.toNatClampNeg (tk_min (X 5 p1.toNatClampNeg) p2)) ∧ M1 = M ∧ K1 = K)) 0 0 A := by
  refine met_ofW [(0, .ref (ad 0)), (1, .int p1), (2, .int p2), (3, .int p3), (4, .int p4)] (by decide +kernel) (Nat.le_of_ble_eq_true rfl) rfl ?_
  intro G C hl hR hL hD hcy hA had hsa hr hQ
  subst hD hcy hA had hsa hl
  refine g_iload_n C dX10_setTank_0 1 rfl ?_
  refine g_iconst C dX10_setTank_1 (v := 3) (by decide) ?_
  refine g_callSiW C dX10_setTank_2 (c_X10_isBelow _ _ _ _ _ _ _ _ _ _ _) tw499 tw500 tw1 tw501 rfl ⟨by decide +kernel, by decide +kernel, rfl⟩ ⟨rfl, rfl⟩ (by rw [hR]; decide) (Nat.le_of_ble_eq_true rfl) (by rw [hR]; decide) (fun r_1 X1 M1 K1 h_2 => ?_)
  obtain ⟨er_1, hX1, hM1, hK1⟩ := h_2
  subst X1 M1 K1
  try simp only [sa_ap, si_ap, reduceIte, Nat.reduceEqDiff] at er_1
  refine g_if_eq C dX10_setTank_5 (tgt := 40) (by decide) (fun c_5 => ?_) (fun c_5 => ?_)
  · try simp only [sa_ap, si_ap, reduceIte, Nat.reduceEqDiff, up_us, lg_cmp_lt, lg_cmp_gt, lg_cmp_le, lg_cmp_ge] at c_5
    exact absurd hx (by first | with_reducible rfl | (subst er_1; first | with_reducible rfl | (simp only [sa_ap, si_ap, si_sa, sa_sa, sa_3, sa_4, sa_5, sa_6, sa_7, sa_8, xk_tank, up_us, up_up, c_5]; done) | (simp [sa_ap, si_ap, si_sa, sa_sa, sa_3, sa_4, sa_5, sa_6, sa_7, sa_8, xk_tank, up_us, up_up, c_5]; done)))
  · try simp only [sa_ap, si_ap, reduceIte, Nat.reduceEqDiff, up_us, lg_cmp_lt, lg_cmp_gt, lg_cmp_le, lg_cmp_ge] at c_5
    obtain ⟨j, hj, rfl⟩ := bel_ix (p := p1) (s := 3) (n := 3) rfl (by omega) (by rw [← er_1]; exact c_5)
    have c_clj : (nI j).toNatClampNeg = j := nI_clamp (by omega)
    refine g_iload_n C dX10_setTank_8 2 rfl ?_
    refine g_iconst C dX10_setTank_9 (v := 0) (by decide) ?_
    refine g_ldc C dX10_setTank_10 tw502 ?_
    refine g_callSiW C dX10_setTank_12 (c_X10_isWithin _ _ _ _ _ _ _ _ _ _ _ _) tw503 tw504 tw1 tw505 rfl ⟨by decide +kernel, by decide +kernel, rfl⟩ ⟨rfl, rfl⟩ (by rw [hR]; decide) (Nat.le_of_ble_eq_true rfl) (by rw [hR]; decide) (fun r_3 X1 M1 K1 h_4 => ?_)
    obtain ⟨er_3, hX1, hM1, hK1⟩ := h_4
    subst X1 M1 K1
    try simp only [sa_ap, si_ap, reduceIte, Nat.reduceEqDiff] at er_3
    refine g_if_eq C dX10_setTank_15 (tgt := 40) (by decide) (fun c_15 => ?_) (fun c_15 => ?_)
    · try simp only [sa_ap, si_ap, reduceIte, Nat.reduceEqDiff, up_us, lg_cmp_lt, lg_cmp_gt, lg_cmp_le, lg_cmp_ge] at c_15
      exact absurd hx (by first | with_reducible rfl | (subst er_1 er_3; first | with_reducible rfl | (simp only [sa_ap, si_ap, si_sa, sa_sa, sa_3, sa_4, sa_5, sa_6, sa_7, sa_8, xk_tank, up_us, up_up, c_5, c_clj, c_15]; done) | (simp [sa_ap, si_ap, si_sa, sa_sa, sa_3, sa_4, sa_5, sa_6, sa_7, sa_8, xk_tank, up_us, up_up, c_5, c_clj, c_15]; done)))
    · try simp only [sa_ap, si_ap, reduceIte, Nat.reduceEqDiff, up_us, lg_cmp_lt, lg_cmp_gt, lg_cmp_le, lg_cmp_ge] at c_15
      refine g_iload_n C dX10_setTank_18 3 rfl ?_
      refine g_iconst C dX10_setTank_19 (v := 0) (by decide) ?_
      refine g_sipush C dX10_setTank_20 (v := 1000) (by decide) ?_
      refine g_callSiW C dX10_setTank_23 (c_X10_isWithin _ _ _ _ _ _ _ _ _ _ _ _) tw503 tw504 tw1 tw505 rfl ⟨by decide +kernel, by decide +kernel, rfl⟩ ⟨rfl, rfl⟩ (by rw [hR]; decide) (Nat.le_of_ble_eq_true rfl) (by rw [hR]; decide) (fun r_5 X1 M1 K1 h_6 => ?_)
      obtain ⟨er_5, hX1, hM1, hK1⟩ := h_6
      subst X1 M1 K1
      try simp only [sa_ap, si_ap, reduceIte, Nat.reduceEqDiff] at er_5
      refine g_if_eq C dX10_setTank_26 (tgt := 40) (by decide) (fun c_26 => ?_) (fun c_26 => ?_)
      · try simp only [sa_ap, si_ap, reduceIte, Nat.reduceEqDiff, up_us, lg_cmp_lt, lg_cmp_gt, lg_cmp_le, lg_cmp_ge] at c_26
        exact absurd hx (by first | with_reducible rfl | (subst er_1 er_3 er_5; first | with_reducible rfl | (simp only [sa_ap, si_ap, si_sa, sa_sa, sa_3, sa_4, sa_5, sa_6, sa_7, sa_8, xk_tank, up_us, up_up, c_5, c_clj, c_15, c_26]; done) | (simp [sa_ap, si_ap, si_sa, sa_sa, sa_3, sa_4, sa_5, sa_6, sa_7, sa_8, xk_tank, up_us, up_up, c_5, c_clj, c_15, c_26]; done)))
      · try simp only [sa_ap, si_ap, reduceIte, Nat.reduceEqDiff, up_us, lg_cmp_lt, lg_cmp_gt, lg_cmp_le, lg_cmp_ge] at c_26
        refine g_iload C dX10_setTank_29 4 rfl ?_
        refine g_iconst C dX10_setTank_31 (v := 0) (by decide) ?_
        refine g_bipush C dX10_setTank_32 (v := 100) (by decide) ?_
        refine g_callSiW C dX10_setTank_34 (c_X10_isWithin _ _ _ _ _ _ _ _ _ _ _ _) tw503 tw504 tw1 tw505 rfl ⟨by decide +kernel, by decide +kernel, rfl⟩ ⟨rfl, rfl⟩ (by rw [hR]; decide) (Nat.le_of_ble_eq_true rfl) (by rw [hR]; decide) (fun r_7 X1 M1 K1 h_8 => ?_)
        obtain ⟨er_7, hX1, hM1, hK1⟩ := h_8
        subst X1 M1 K1
        try simp only [sa_ap, si_ap, reduceIte, Nat.reduceEqDiff] at er_7
        refine g_if_ne C dX10_setTank_37 (tgt := 50) (by decide) (fun c_37 => ?_) (fun c_37 => ?_)
        · try simp only [sa_ap, si_ap, reduceIte, Nat.reduceEqDiff, up_us, lg_cmp_lt, lg_cmp_gt, lg_cmp_le, lg_cmp_ge] at c_37
          refine g_aload_n C dX10_setTank_50 0 rfl ?_
          refine gf_X10_tanks C tw323 dX10_setTank_51 ?_
          refine g_iload_n C dX10_setTank_54 1 rfl ?_
          refine g_iload_n C dX10_setTank_55 2 rfl ?_
          refine g_iload_n C dX10_setTank_56 3 rfl ?_
          refine g_iload C dX10_setTank_57 4 rfl ?_
          refine g_callViW C dX10_setTank_59 (c_X9_define _ _ _ _ _ _ _ _ _ j (by omega) _ _ _) tw522 tw523 tw524 tw2 tw525 (rv_X9 C) rfl ⟨by decide +kernel, by decide +kernel, rfl⟩ ⟨rfl, rfl⟩ (by rw [hR]; decide) (Nat.le_of_ble_eq_true rfl) (by rw [hR]; decide) (fun r_9 X1 M1 K1 h_10 => ?_)
          obtain ⟨er_9, hX1, hM1, hK1⟩ := h_10
          subst X1 M1 K1
          try simp only [sa_ap, si_ap, reduceIte, Nat.reduceEqDiff] at er_9
          refine g_iretW C hr hQ (Nat.le_refl _) (Nat.le_refl _) dX10_setTank_62 ?_
          exact ⟨(by first | with_reducible rfl | (subst er_1 er_3 er_5 er_7 er_9; first | with_reducible rfl | (simp only [sa_ap, si_ap, si_sa, sa_sa, sa_3, sa_4, sa_5, sa_6, sa_7, sa_8, xk_tank, up_us, up_up, c_5, c_clj, c_15, c_26, c_37]; done) | (simp [sa_ap, si_ap, si_sa, sa_sa, sa_3, sa_4, sa_5, sa_6, sa_7, sa_8, xk_tank, up_us, up_up, c_5, c_clj, c_15, c_26, c_37]; done))), (by first | with_reducible rfl | (subst er_1 er_3 er_5 er_7 er_9; first | with_reducible rfl | (simp only [sa_ap, si_ap, si_sa, sa_sa, sa_3, sa_4, sa_5, sa_6, sa_7, sa_8, xk_tank, up_us, up_up, c_5, c_clj, c_15, c_26, c_37]; done) | (simp [sa_ap, si_ap, si_sa, sa_sa, sa_3, sa_4, sa_5, sa_6, sa_7, sa_8, xk_tank, up_us, up_up, c_5, c_clj, c_15, c_26, c_37]; done))), rfl, rfl⟩
        · try simp only [sa_ap, si_ap, reduceIte, Nat.reduceEqDiff, up_us, lg_cmp_lt, lg_cmp_gt, lg_cmp_le, lg_cmp_ge] at c_37
          exact absurd hx (by first | with_reducible rfl | (subst er_1 er_3 er_5 er_7; first | with_reducible rfl | (simp only [sa_ap, si_ap, si_sa, sa_sa, sa_3, sa_4, sa_5, sa_6, sa_7, sa_8, xk_tank, up_us, up_up, c_5, c_clj, c_15, c_26, c_37]; done) | (simp [sa_ap, si_ap, si_sa, sa_sa, sa_3, sa_4, sa_5, sa_6, sa_7, sa_8, xk_tank, up_us, up_up, c_5, c_clj, c_15, c_26, c_37]; done)))

set_option maxHeartbeats 400000 in
set_option maxRecDepth 100000 in
/-- setValve.setValve -/
theorem n_X10_setValve (l : Launch) (D : va_G) (cy : Nat → ClassId) (A : Nat → Prop) (ad sad : Nat → Nat) (X M : XF) (K : KF) (p1 p2 : Int32) (h2 : isBo p2) (hb : ∀ i : Nat, isBo (X 6 i)) (hx : xk_b p1 3 = 0) : Met l yX10_setValve (wsA yX10_setValve cX10_setValve 4 (some .boolean)) ({ frames := 1, cells := 0, slots := 0, locals := 21 }) (PcW D cy A ad sad X M K [.ref (ad 0), .int p1, .int p2]) (QiW D cy A ad (fun r X1 M1 K1 => r = X 6 p1.toNatClampNeg ∧ X1 = sa X 6 (upd (X 6) p1.toNatClampNeg p2) ∧ M1 = M ∧ K1 = K)) 0 0 A := by
  refine met_ofW [(0, .ref (ad 0)), (1, .int p1), (2, .int p2)] (by decide +kernel) (Nat.le_of_ble_eq_true rfl) rfl ?_
  intro G C hl hR hL hD hcy hA had hsa hr hQ
  subst hD hcy hA had hsa hl
  refine g_iload_n C dX10_setValve_0 1 rfl ?_
  refine g_iconst C dX10_setValve_1 (v := 3) (by decide) ?_
  refine g_callSiW C dX10_setValve_2 (c_X10_isBelow _ _ _ _ _ _ _ _ _ _ _) tw499 tw500 tw1 tw501 rfl ⟨by decide +kernel, by decide +kernel, rfl⟩ ⟨rfl, rfl⟩ (by rw [hR]; decide) (Nat.le_of_ble_eq_true rfl) (by rw [hR]; decide) (fun r_1 X1 M1 K1 h_2 => ?_)
  obtain ⟨er_1, hX1, hM1, hK1⟩ := h_2
  subst X1 M1 K1
  try simp only [sa_ap, si_ap, reduceIte, Nat.reduceEqDiff] at er_1
  refine g_if_ne C dX10_setValve_5 (tgt := 18) (by decide) (fun c_5 => ?_) (fun c_5 => ?_)
  · try simp only [sa_ap, si_ap, reduceIte, Nat.reduceEqDiff, up_us, lg_cmp_lt, lg_cmp_gt, lg_cmp_le, lg_cmp_ge] at c_5
    obtain ⟨j, hj, rfl⟩ := bel_ix (p := p1) (s := 3) (n := 3) rfl (by omega) (by rw [← er_1]; exact c_5)
    have c_clj : (nI j).toNatClampNeg = j := nI_clamp (by omega)
    refine g_aload_n C dX10_setValve_18 0 rfl ?_
    refine gf_X10_tanks C tw323 dX10_setValve_19 ?_
    refine gf_X9_isOpen C tw60 dX10_setValve_22 ?_
    refine g_iload_n C dX10_setValve_25 1 rfl ?_
    refine al_6 C (by omega) dX10_setValve_26 ?_
    refine g_topi rfl ?_
    refine g_istore_n C dX10_setValve_27 (L' := [(3, .int (X 6 j)), (0, .ref (gad G 0)), (1, .int (nI j)), (2, .int p2)]) rfl (by rw [hL]; decide) ?_
    refine g_aload_n C dX10_setValve_28 1 rfl ?_
    refine gf_X10_tanks C tw323 dX10_setValve_29 ?_
    refine gf_X9_isOpen C tw60 dX10_setValve_32 ?_
    refine g_iload_n C dX10_setValve_35 2 rfl ?_
    refine g_iload_n C dX10_setValve_36 3 rfl ?_
    refine as_6 C (by first | exact isBo_0 | exact isBo_1 | assumption) (by omega) dX10_setValve_37 ?_
    refine g_iload_n C dX10_setValve_38 0 rfl ?_
    refine g_zretW C hr (isBo.na (hb _)).1 hQ (Nat.le_refl _) (Nat.le_refl _) dX10_setValve_39 ?_
    exact ⟨(by first | with_reducible rfl | (subst er_1; first | with_reducible rfl | (simp only [sa_ap, si_ap, si_sa, sa_sa, sa_3, sa_4, sa_5, sa_6, sa_7, sa_8, xk_b, up_us, up_up, c_5, c_clj]; done) | (simp [sa_ap, si_ap, si_sa, sa_sa, sa_3, sa_4, sa_5, sa_6, sa_7, sa_8, xk_b, up_us, up_up, c_5, c_clj]; done))), (by first | with_reducible rfl | (subst er_1; first | with_reducible rfl | (simp only [sa_ap, si_ap, si_sa, sa_sa, sa_3, sa_4, sa_5, sa_6, sa_7, sa_8, xk_b, up_us, up_up, c_5, c_clj]; done) | (simp [sa_ap, si_ap, si_sa, sa_sa, sa_3, sa_4, sa_5, sa_6, sa_7, sa_8, xk_b, up_us, up_up, c_5, c_clj]; done))), rfl, rfl⟩
  · try simp only [sa_ap, si_ap, reduceIte, Nat.reduceEqDiff, up_us, lg_cmp_lt, lg_cmp_gt, lg_cmp_le, lg_cmp_ge] at c_5
    exact absurd hx (by first | with_reducible rfl | (subst er_1; first | with_reducible rfl | (simp only [sa_ap, si_ap, si_sa, sa_sa, sa_3, sa_4, sa_5, sa_6, sa_7, sa_8, xk_b, up_us, up_up, c_5]; done) | (simp [sa_ap, si_ap, si_sa, sa_sa, sa_3, sa_4, sa_5, sa_6, sa_7, sa_8, xk_b, up_us, up_up, c_5]; done)))

set_option maxHeartbeats 400000 in
set_option maxRecDepth 100000 in
/-- drain.drain -/
theorem n_X10_drain (l : Launch) (D : va_G) (cy : Nat → ClassId) (A : Nat → Prop) (ad sad : Nat → Nat) (X M : XF) (K : KF) (p1 p2 : Int32) (hx : xk_drain p1 p2 = 0) : Met l yX10_drain (wsA yX10_drain cX10_drain 3 (some .int)) ({ frames := 2, cells := 0, slots := 0, locals := 44 }) (PcW D cy A ad sad X M K [.ref (ad 0), .int p1, .int p2]) (QiW D cy A ad (fun r X1 M1 K1 => r = tk_min (X 5 p1.toNatClampNeg) p2 ∧ X1 = sa X 5 (upd (X 5) p1.toNatClampNeg (X 5 p1.toNatClampNeg - tk_min (X 5 p1.toNatClampNeg) p2)) ∧ M1 = M ∧ K1 = K)) 0 0 A := by
  refine met_ofW [(0, .ref (ad 0)), (1, .int p1), (2, .int p2)] (by decide +kernel) (Nat.le_of_ble_eq_true rfl) rfl ?_
  intro G C hl hR hL hD hcy hA had hsa hr hQ
  subst hD hcy hA had hsa hl
  refine g_iload_n C dX10_drain_0 1 rfl ?_
  refine g_iconst C dX10_drain_1 (v := 3) (by decide) ?_
  refine g_callSiW C dX10_drain_2 (c_X10_isBelow _ _ _ _ _ _ _ _ _ _ _) tw499 tw500 tw1 tw501 rfl ⟨by decide +kernel, by decide +kernel, rfl⟩ ⟨rfl, rfl⟩ (by rw [hR]; decide) (Nat.le_of_ble_eq_true rfl) (by rw [hR]; decide) (fun r_1 X1 M1 K1 h_2 => ?_)
  obtain ⟨er_1, hX1, hM1, hK1⟩ := h_2
  subst X1 M1 K1
  try simp only [sa_ap, si_ap, reduceIte, Nat.reduceEqDiff] at er_1
  refine g_if_eq C dX10_drain_5 (tgt := 18) (by decide) (fun c_5 => ?_) (fun c_5 => ?_)
  · try simp only [sa_ap, si_ap, reduceIte, Nat.reduceEqDiff, up_us, lg_cmp_lt, lg_cmp_gt, lg_cmp_le, lg_cmp_ge] at c_5
    exact absurd hx (by first | with_reducible rfl | (subst er_1; first | with_reducible rfl | (simp only [sa_ap, si_ap, si_sa, sa_sa, sa_3, sa_4, sa_5, sa_6, sa_7, sa_8, xk_drain, up_us, up_up, c_5]; done) | (simp [sa_ap, si_ap, si_sa, sa_sa, sa_3, sa_4, sa_5, sa_6, sa_7, sa_8, xk_drain, up_us, up_up, c_5]; done)))
  · try simp only [sa_ap, si_ap, reduceIte, Nat.reduceEqDiff, up_us, lg_cmp_lt, lg_cmp_gt, lg_cmp_le, lg_cmp_ge] at c_5
    obtain ⟨j, hj, rfl⟩ := bel_ix (p := p1) (s := 3) (n := 3) rfl (by omega) (by rw [← er_1]; exact c_5)
    have c_clj : (nI j).toNatClampNeg = j := nI_clamp (by omega)
    refine g_iload_n C dX10_drain_8 2 rfl ?_
    refine g_iconst C dX10_drain_9 (v := 1) (by decide) ?_
    refine g_ldc C dX10_drain_10 tw502 ?_
    refine g_callSiW C dX10_drain_12 (c_X10_isWithin _ _ _ _ _ _ _ _ _ _ _ _) tw503 tw504 tw1 tw505 rfl ⟨by decide +kernel, by decide +kernel, rfl⟩ ⟨rfl, rfl⟩ (by rw [hR]; decide) (Nat.le_of_ble_eq_true rfl) (by rw [hR]; decide) (fun r_3 X1 M1 K1 h_4 => ?_)
    obtain ⟨er_3, hX1, hM1, hK1⟩ := h_4
    subst X1 M1 K1
    try simp only [sa_ap, si_ap, reduceIte, Nat.reduceEqDiff] at er_3
    refine g_if_ne C dX10_drain_15 (tgt := 28) (by decide) (fun c_15 => ?_) (fun c_15 => ?_)
    · try simp only [sa_ap, si_ap, reduceIte, Nat.reduceEqDiff, up_us, lg_cmp_lt, lg_cmp_gt, lg_cmp_le, lg_cmp_ge] at c_15
      refine g_aload_n C dX10_drain_28 0 rfl ?_
      refine gf_X10_tanks C tw323 dX10_drain_29 ?_
      refine g_iload_n C dX10_drain_32 1 rfl ?_
      refine g_iload_n C dX10_drain_33 2 rfl ?_
      refine g_callViW C dX10_drain_34 (c_X9_takeOut _ _ _ _ _ _ _ _ _ j (by omega) _) tw542 tw543 tw544 tw2 tw545 (rv_X9 C) rfl ⟨by decide +kernel, by decide +kernel, rfl⟩ ⟨rfl, rfl⟩ (by rw [hR]; decide) (Nat.le_of_ble_eq_true rfl) (by rw [hR]; decide) (fun r_5 X1 M1 K1 h_6 => ?_)
      obtain ⟨er_5, hX1, hM1, hK1⟩ := h_6
      subst X1 M1 K1
      try simp only [sa_ap, si_ap, reduceIte, Nat.reduceEqDiff] at er_5
      refine g_iretW C hr hQ (Nat.le_refl _) (Nat.le_refl _) dX10_drain_37 ?_
      exact ⟨(by first | with_reducible rfl | (subst er_1 er_3 er_5; first | with_reducible rfl | (simp only [sa_ap, si_ap, si_sa, sa_sa, sa_3, sa_4, sa_5, sa_6, sa_7, sa_8, xk_drain, up_us, up_up, c_5, c_clj, c_15]; done) | (simp [sa_ap, si_ap, si_sa, sa_sa, sa_3, sa_4, sa_5, sa_6, sa_7, sa_8, xk_drain, up_us, up_up, c_5, c_clj, c_15]; done))), (by first | with_reducible rfl | (subst er_1 er_3 er_5; first | with_reducible rfl | (simp only [sa_ap, si_ap, si_sa, sa_sa, sa_3, sa_4, sa_5, sa_6, sa_7, sa_8, xk_drain, up_us, up_up, c_5, c_clj, c_15]; done) | (simp [sa_ap, si_ap, si_sa, sa_sa, sa_3, sa_4, sa_5, sa_6, sa_7, sa_8, xk_drain, up_us, up_up, c_5, c_clj, c_15]; done))), rfl, rfl⟩
    · try simp only [sa_ap, si_ap, reduceIte, Nat.reduceEqDiff, up_us, lg_cmp_lt, lg_cmp_gt, lg_cmp_le, lg_cmp_ge] at c_15
      exact absurd hx (by first | with_reducible rfl | (subst er_1 er_3; first | with_reducible rfl | (simp only [sa_ap, si_ap, si_sa, sa_sa, sa_3, sa_4, sa_5, sa_6, sa_7, sa_8, xk_drain, up_us, up_up, c_5, c_clj, c_15]; done) | (simp [sa_ap, si_ap, si_sa, sa_sa, sa_3, sa_4, sa_5, sa_6, sa_7, sa_8, xk_drain, up_us, up_up, c_5, c_clj, c_15]; done)))

set_option maxHeartbeats 400000 in
set_option maxRecDepth 100000 in
/-- inTank.inTank -/
theorem n_X10_inTank (l : Launch) (D : va_G) (cy : Nat → ClassId) (A : Nat → Prop) (ad sad : Nat → Nat) (X M : XF) (K : KF) (p1 : Int32) (hx : xk_b p1 3 = 0) : Met l yX10_inTank (wsA yX10_inTank cX10_inTank 2 (some .int)) ({ frames := 1, cells := 0, slots := 0, locals := 21 }) (PcW D cy A ad sad X M K [.ref (ad 0), .int p1]) (QiW D cy A ad (fun r X1 M1 K1 => r = X 5 p1.toNatClampNeg ∧ X1 = X ∧ M1 = M ∧ K1 = K)) 0 0 A := by
  refine met_ofW [(0, .ref (ad 0)), (1, .int p1)] (by decide +kernel) (Nat.le_of_ble_eq_true rfl) rfl ?_
  intro G C hl hR hL hD hcy hA had hsa hr hQ
  subst hD hcy hA had hsa hl
  refine g_iload_n C dX10_inTank_0 1 rfl ?_
  refine g_iconst C dX10_inTank_1 (v := 3) (by decide) ?_
  refine g_callSiW C dX10_inTank_2 (c_X10_isBelow _ _ _ _ _ _ _ _ _ _ _) tw499 tw500 tw1 tw501 rfl ⟨by decide +kernel, by decide +kernel, rfl⟩ ⟨rfl, rfl⟩ (by rw [hR]; decide) (Nat.le_of_ble_eq_true rfl) (by rw [hR]; decide) (fun r_1 X1 M1 K1 h_2 => ?_)
  obtain ⟨er_1, hX1, hM1, hK1⟩ := h_2
  subst X1 M1 K1
  try simp only [sa_ap, si_ap, reduceIte, Nat.reduceEqDiff] at er_1
  refine g_if_ne C dX10_inTank_5 (tgt := 18) (by decide) (fun c_5 => ?_) (fun c_5 => ?_)
  · try simp only [sa_ap, si_ap, reduceIte, Nat.reduceEqDiff, up_us, lg_cmp_lt, lg_cmp_gt, lg_cmp_le, lg_cmp_ge] at c_5
    obtain ⟨j, hj, rfl⟩ := bel_ix (p := p1) (s := 3) (n := 3) rfl (by omega) (by rw [← er_1]; exact c_5)
    have c_clj : (nI j).toNatClampNeg = j := nI_clamp (by omega)
    refine g_aload_n C dX10_inTank_18 0 rfl ?_
    refine gf_X10_tanks C tw323 dX10_inTank_19 ?_
    refine gf_X9_amount C tw58 dX10_inTank_22 ?_
    refine g_iload_n C dX10_inTank_25 1 rfl ?_
    refine al_5 C (by omega) dX10_inTank_26 ?_
    refine g_iretW C hr hQ (Nat.le_refl _) (Nat.le_refl _) dX10_inTank_27 ?_
    exact ⟨(by first | with_reducible rfl | (subst er_1; first | with_reducible rfl | (simp only [sa_ap, si_ap, si_sa, sa_sa, sa_3, sa_4, sa_5, sa_6, sa_7, sa_8, xk_b, up_us, up_up, c_5, c_clj]; done) | (simp [sa_ap, si_ap, si_sa, sa_sa, sa_3, sa_4, sa_5, sa_6, sa_7, sa_8, xk_b, up_us, up_up, c_5, c_clj]; done))), (by first | with_reducible rfl | (subst er_1; first | with_reducible rfl | (simp only [sa_ap, si_ap, si_sa, sa_sa, sa_3, sa_4, sa_5, sa_6, sa_7, sa_8, xk_b, up_us, up_up, c_5, c_clj]; done) | (simp [sa_ap, si_ap, si_sa, sa_sa, sa_3, sa_4, sa_5, sa_6, sa_7, sa_8, xk_b, up_us, up_up, c_5, c_clj]; done))), rfl, rfl⟩
  · try simp only [sa_ap, si_ap, reduceIte, Nat.reduceEqDiff, up_us, lg_cmp_lt, lg_cmp_gt, lg_cmp_le, lg_cmp_ge] at c_5
    exact absurd hx (by first | with_reducible rfl | (subst er_1; first | with_reducible rfl | (simp only [sa_ap, si_ap, si_sa, sa_sa, sa_3, sa_4, sa_5, sa_6, sa_7, sa_8, xk_b, up_us, up_up, c_5]; done) | (simp [sa_ap, si_ap, si_sa, sa_sa, sa_3, sa_4, sa_5, sa_6, sa_7, sa_8, xk_b, up_us, up_up, c_5]; done)))

set_option maxHeartbeats 400000 in
set_option maxRecDepth 100000 in
/-- addStep.addStep -/
theorem n_X10_addStep (l : Launch) (D : va_G) (cy : Nat → ClassId) (A : Nat → Prop) (ad sad : Nat → Nat) (X M : XF) (K : KF) (p1 p2 : Int32) (z : Nat) (hz : X 102 0 = nI z) (hzl : z ≤ 16) (hx : xk_step (nI z) (X 118 0) p1 p2 = 0) : Met l yX10_addStep (wsA yX10_addStep cX10_addStep 3 (some .int)) ({ frames := 2, cells := 0, slots := 0, locals := 40 }) (PcW D cy A ad sad X M K [.ref (ad 0), .int p1, .int p2]) (QiW D cy A ad (fun r X1 M1 K1 => r = nI z ∧ X1 = si (sa (sa (sa X 8 (upd (X 8) z p1)) 9 (upd (X 9) z p2)) 12 (upd (X 12) z 45)) 102 (nI z + 1) ∧ M1 = M ∧ K1 = K)) 0 0 A := by
  refine met_ofW [(0, .ref (ad 0)), (1, .int p1), (2, .int p2)] (by decide +kernel) (Nat.le_of_ble_eq_true rfl) rfl ?_
  intro G C hl hR hL hD hcy hA had hsa hr hQ
  subst hD hcy hA had hsa hl
  refine g_iload_n C dX10_addStep_0 1 rfl ?_
  refine g_sipush C dX10_addStep_1 (v := (-600)) (by decide) ?_
  refine g_iconst C dX10_addStep_4 (v := (-1)) (by decide) ?_
  refine g_callSiW C dX10_addStep_5 (c_X10_isWithin _ _ _ _ _ _ _ _ _ _ _ _) tw503 tw504 tw1 tw505 rfl ⟨by decide +kernel, by decide +kernel, rfl⟩ ⟨rfl, rfl⟩ (by rw [hR]; decide) (Nat.le_of_ble_eq_true rfl) (by rw [hR]; decide) (fun r_1 X1 M1 K1 h_2 => ?_)
  obtain ⟨er_1, hX1, hM1, hK1⟩ := h_2
  subst X1 M1 K1
  try simp only [sa_ap, si_ap, reduceIte, Nat.reduceEqDiff] at er_1
  refine g_if_eq C dX10_addStep_8 (tgt := 22) (by decide) (fun c_8 => ?_) (fun c_8 => ?_)
  · try simp only [sa_ap, si_ap, reduceIte, Nat.reduceEqDiff, up_us, lg_cmp_lt, lg_cmp_gt, lg_cmp_le, lg_cmp_ge] at c_8
    exact absurd hx (by first | with_reducible rfl | (subst er_1; first | with_reducible rfl | (simp only [sa_ap, si_ap, si_sa, sa_sa, sa_3, sa_4, sa_5, sa_6, sa_7, sa_8, xk_step, up_us, up_up, c_8]; done) | (simp [sa_ap, si_ap, si_sa, sa_sa, sa_3, sa_4, sa_5, sa_6, sa_7, sa_8, xk_step, up_us, up_up, c_8]; done)))
  · try simp only [sa_ap, si_ap, reduceIte, Nat.reduceEqDiff, up_us, lg_cmp_lt, lg_cmp_gt, lg_cmp_le, lg_cmp_ge] at c_8
    refine g_iload_n C dX10_addStep_11 2 rfl ?_
    refine g_iconst C dX10_addStep_12 (v := 1) (by decide) ?_
    refine g_sipush C dX10_addStep_13 (v := 300) (by decide) ?_
    refine g_callSiW C dX10_addStep_16 (c_X10_isWithin _ _ _ _ _ _ _ _ _ _ _ _) tw503 tw504 tw1 tw505 rfl ⟨by decide +kernel, by decide +kernel, rfl⟩ ⟨rfl, rfl⟩ (by rw [hR]; decide) (Nat.le_of_ble_eq_true rfl) (by rw [hR]; decide) (fun r_3 X1 M1 K1 h_4 => ?_)
    obtain ⟨er_3, hX1, hM1, hK1⟩ := h_4
    subst X1 M1 K1
    try simp only [sa_ap, si_ap, reduceIte, Nat.reduceEqDiff] at er_3
    refine g_if_ne C dX10_addStep_19 (tgt := 32) (by decide) (fun c_19 => ?_) (fun c_19 => ?_)
    · try simp only [sa_ap, si_ap, reduceIte, Nat.reduceEqDiff, up_us, lg_cmp_lt, lg_cmp_gt, lg_cmp_le, lg_cmp_ge] at c_19
      refine g_aload_n C dX10_addStep_32 0 rfl ?_
      refine gf_X10_steps C tw324 dX10_addStep_33 ?_
      refine gf_X8_size C tw87 dX10_addStep_36 ?_
      refine g_topi hz ?_
      refine g_bipush C dX10_addStep_39 (v := 16) (by decide) ?_
      refine g_icmp_ge C dX10_addStep_41 (tgt := 51) (by decide) (fun c_41 => ?_) (fun c_41 => ?_)
      · try simp only [sa_ap, si_ap, reduceIte, Nat.reduceEqDiff, up_us, lg_cmp_lt, lg_cmp_gt, lg_cmp_le, lg_cmp_ge] at c_41
        exact absurd hx (by first | with_reducible rfl | (subst er_1 er_3; first | with_reducible rfl | (simp only [sa_ap, si_ap, si_sa, sa_sa, sa_3, sa_4, sa_5, sa_6, sa_7, sa_8, xk_step, up_us, up_up, c_8, c_19, c_41]; done) | (simp [sa_ap, si_ap, si_sa, sa_sa, sa_3, sa_4, sa_5, sa_6, sa_7, sa_8, xk_step, up_us, up_up, c_8, c_19, c_41]; done)))
      · try simp only [sa_ap, si_ap, reduceIte, Nat.reduceEqDiff, up_us, lg_cmp_lt, lg_cmp_gt, lg_cmp_le, lg_cmp_ge] at c_41
        have hlt : z < 16 := Nat.lt_of_le_of_ne hzl (fun q => c_41 (by rw [q]; decide))
        refine g_aload_n C dX10_addStep_44 0 rfl ?_
        refine g_callViW C dX10_addStep_45 (c_X10_isPlanFixed _ _ _ _ _ _ _ _ _ ) tw551 tw553 tp3 tw1 tw554 (rv_X10 C) rfl ⟨by decide +kernel, by decide +kernel, rfl⟩ ⟨rfl, rfl⟩ (by rw [hR]; decide) (Nat.le_of_ble_eq_true rfl) (by rw [hR]; decide) (fun r_5 X1 M1 K1 h_6 => ?_)
        obtain ⟨er_5, hX1, hM1, hK1⟩ := h_6
        subst X1 M1 K1
        try simp only [sa_ap, si_ap, reduceIte, Nat.reduceEqDiff] at er_5
        refine g_if_eq C dX10_addStep_48 (tgt := 61) (by decide) (fun c_48 => ?_) (fun c_48 => ?_)
        · try simp only [sa_ap, si_ap, reduceIte, Nat.reduceEqDiff, up_us, lg_cmp_lt, lg_cmp_gt, lg_cmp_le, lg_cmp_ge] at c_48
          refine g_aload_n C dX10_addStep_61 0 rfl ?_
          refine gf_X10_steps C tw324 dX10_addStep_62 ?_
          refine g_iload_n C dX10_addStep_65 1 rfl ?_
          refine g_iload_n C dX10_addStep_66 2 rfl ?_
          refine g_callViW C dX10_addStep_67 (c_X8_append _ _ _ _ _ _ _ _ _ _ _ z hz hlt) tw579 tw580 tw581 tw3 tw582 (rv_X8 C) rfl ⟨by decide +kernel, by decide +kernel, rfl⟩ ⟨rfl, rfl⟩ (by rw [hR]; decide) (Nat.le_of_ble_eq_true rfl) (by rw [hR]; decide) (fun r_7 X1 M1 K1 h_8 => ?_)
          obtain ⟨er_7, hX1, hM1, hK1⟩ := h_8
          subst X1 M1 K1
          try simp only [sa_ap, si_ap, reduceIte, Nat.reduceEqDiff] at er_7
          refine g_iretW C hr hQ (Nat.le_refl _) (Nat.le_refl _) dX10_addStep_70 ?_
          exact ⟨(by first | with_reducible rfl | (subst er_1 er_3 er_5 er_7; first | with_reducible rfl | (simp only [sa_ap, si_ap, si_sa, sa_sa, sa_3, sa_4, sa_5, sa_6, sa_7, sa_8, xk_step, up_us, up_up, c_8, c_19, c_41, c_48]; done) | (simp [sa_ap, si_ap, si_sa, sa_sa, sa_3, sa_4, sa_5, sa_6, sa_7, sa_8, xk_step, up_us, up_up, c_8, c_19, c_41, c_48]; done))), (by first | with_reducible rfl | (subst er_1 er_3 er_5 er_7; first | with_reducible rfl | (simp only [sa_ap, si_ap, si_sa, sa_sa, sa_3, sa_4, sa_5, sa_6, sa_7, sa_8, xk_step, up_us, up_up, c_8, c_19, c_41, c_48]; done) | (simp [sa_ap, si_ap, si_sa, sa_sa, sa_3, sa_4, sa_5, sa_6, sa_7, sa_8, xk_step, up_us, up_up, c_8, c_19, c_41, c_48]; done))), rfl, rfl⟩
        · try simp only [sa_ap, si_ap, reduceIte, Nat.reduceEqDiff, up_us, lg_cmp_lt, lg_cmp_gt, lg_cmp_le, lg_cmp_ge] at c_48
          exact absurd hx (by first | with_reducible rfl | (subst er_1 er_3 er_5; first | with_reducible rfl | (simp only [sa_ap, si_ap, si_sa, sa_sa, sa_3, sa_4, sa_5, sa_6, sa_7, sa_8, xk_step, up_us, up_up, c_8, c_19, c_41, c_48]; done) | (simp [sa_ap, si_ap, si_sa, sa_sa, sa_3, sa_4, sa_5, sa_6, sa_7, sa_8, xk_step, up_us, up_up, c_8, c_19, c_41, c_48]; done)))
    · try simp only [sa_ap, si_ap, reduceIte, Nat.reduceEqDiff, up_us, lg_cmp_lt, lg_cmp_gt, lg_cmp_le, lg_cmp_ge] at c_19
      exact absurd hx (by first | with_reducible rfl | (subst er_1 er_3; first | with_reducible rfl | (simp only [sa_ap, si_ap, si_sa, sa_sa, sa_3, sa_4, sa_5, sa_6, sa_7, sa_8, xk_step, up_us, up_up, c_8, c_19]; done) | (simp [sa_ap, si_ap, si_sa, sa_sa, sa_3, sa_4, sa_5, sa_6, sa_7, sa_8, xk_step, up_us, up_up, c_8, c_19]; done)))

set_option maxHeartbeats 400000 in
set_option maxRecDepth 100000 in
/-- setAfter.setAfter -/
theorem n_X10_setAfter (l : Launch) (D : va_G) (cy : Nat → ClassId) (A : Nat → Prop) (ad sad : Nat → Nat) (X M : XF) (K : KF) (p1 p2 : Int32) (z : Nat) (hz : X 102 0 = nI z) (hzl : z ≤ 16) (hx : xk_after (nI z) (X 118 0) p1 p2 = 0) : Met l yX10_setAfter (wsA yX10_setAfter cX10_setAfter 3 (some .int)) ({ frames := 2, cells := 0, slots := 0, locals := 42 }) (PcW D cy A ad sad X M K [.ref (ad 0), .int p1, .int p2]) (QiW D cy A ad (fun r X1 M1 K1 => r = bcnt (X 11 p1.toNatClampNeg ||| (1 <<< (p2 &&& 31))) ∧ X1 = sa X 11 (upd (X 11) p1.toNatClampNeg (X 11 p1.toNatClampNeg ||| (1 <<< (p2 &&& 31)))) ∧ M1 = M ∧ K1 = K)) 0 0 A := by
  refine met_ofW [(0, .ref (ad 0)), (1, .int p1), (2, .int p2)] (by decide +kernel) (Nat.le_of_ble_eq_true rfl) rfl ?_
  intro G C hl hR hL hD hcy hA had hsa hr hQ
  subst hD hcy hA had hsa hl
  refine g_iload_n C dX10_setAfter_0 1 rfl ?_
  refine g_aload_n C dX10_setAfter_1 0 rfl ?_
  refine gf_X10_steps C tw324 dX10_setAfter_2 ?_
  refine gf_X8_size C tw87 dX10_setAfter_5 ?_
  refine g_topi hz ?_
  refine g_callSiW C dX10_setAfter_8 (c_X10_isBelow _ _ _ _ _ _ _ _ _ _ _) tw499 tw500 tw1 tw501 rfl ⟨by decide +kernel, by decide +kernel, rfl⟩ ⟨rfl, rfl⟩ (by rw [hR]; decide) (Nat.le_of_ble_eq_true rfl) (by rw [hR]; decide) (fun r_1 X1 M1 K1 h_2 => ?_)
  obtain ⟨er_1, hX1, hM1, hK1⟩ := h_2
  subst X1 M1 K1
  try simp only [sa_ap, si_ap, reduceIte, Nat.reduceEqDiff] at er_1
  refine g_if_eq C dX10_setAfter_11 (tgt := 28) (by decide) (fun c_11 => ?_) (fun c_11 => ?_)
  · try simp only [sa_ap, si_ap, reduceIte, Nat.reduceEqDiff, up_us, lg_cmp_lt, lg_cmp_gt, lg_cmp_le, lg_cmp_ge] at c_11
    exact absurd hx (by first | with_reducible rfl | (subst er_1; first | with_reducible rfl | (simp only [sa_ap, si_ap, si_sa, sa_sa, sa_3, sa_4, sa_5, sa_6, sa_7, sa_8, xk_after, up_us, up_up, c_11]; done) | (simp [sa_ap, si_ap, si_sa, sa_sa, sa_3, sa_4, sa_5, sa_6, sa_7, sa_8, xk_after, up_us, up_up, c_11]; done)))
  · try simp only [sa_ap, si_ap, reduceIte, Nat.reduceEqDiff, up_us, lg_cmp_lt, lg_cmp_gt, lg_cmp_le, lg_cmp_ge] at c_11
    obtain ⟨j, hj, rfl⟩ := bel_ix (p := p1) (s := nI z) (n := z) rfl (by omega) (by rw [← er_1]; exact c_11)
    have c_clj : (nI j).toNatClampNeg = j := nI_clamp (by omega)
    refine g_iload_n C dX10_setAfter_14 2 rfl ?_
    refine g_aload_n C dX10_setAfter_15 0 rfl ?_
    refine gf_X10_steps C tw324 dX10_setAfter_16 ?_
    refine gf_X8_size C tw87 dX10_setAfter_19 ?_
    refine g_topi hz ?_
    refine g_callSiW C dX10_setAfter_22 (c_X10_isBelow _ _ _ _ _ _ _ _ _ _ _) tw499 tw500 tw1 tw501 rfl ⟨by decide +kernel, by decide +kernel, rfl⟩ ⟨rfl, rfl⟩ (by rw [hR]; decide) (Nat.le_of_ble_eq_true rfl) (by rw [hR]; decide) (fun r_3 X1 M1 K1 h_4 => ?_)
    obtain ⟨er_3, hX1, hM1, hK1⟩ := h_4
    subst X1 M1 K1
    try simp only [sa_ap, si_ap, reduceIte, Nat.reduceEqDiff] at er_3
    refine g_if_ne C dX10_setAfter_25 (tgt := 38) (by decide) (fun c_25 => ?_) (fun c_25 => ?_)
    · try simp only [sa_ap, si_ap, reduceIte, Nat.reduceEqDiff, up_us, lg_cmp_lt, lg_cmp_gt, lg_cmp_le, lg_cmp_ge] at c_25
      refine g_iload_n C dX10_setAfter_38 2 rfl ?_
      refine g_iload_n C dX10_setAfter_39 1 rfl ?_
      refine g_icmp_lt C dX10_setAfter_40 (tgt := 53) (by decide) (fun c_40 => ?_) (fun c_40 => ?_)
      · try simp only [sa_ap, si_ap, reduceIte, Nat.reduceEqDiff, up_us, lg_cmp_lt, lg_cmp_gt, lg_cmp_le, lg_cmp_ge] at c_40
        refine g_aload_n C dX10_setAfter_53 0 rfl ?_
        refine g_callViW C dX10_setAfter_54 (c_X10_isPlanFixed _ _ _ _ _ _ _ _ _ ) tw551 tw553 tp3 tw1 tw554 (rv_X10 C) rfl ⟨by decide +kernel, by decide +kernel, rfl⟩ ⟨rfl, rfl⟩ (by rw [hR]; decide) (Nat.le_of_ble_eq_true rfl) (by rw [hR]; decide) (fun r_5 X1 M1 K1 h_6 => ?_)
        obtain ⟨er_5, hX1, hM1, hK1⟩ := h_6
        subst X1 M1 K1
        try simp only [sa_ap, si_ap, reduceIte, Nat.reduceEqDiff] at er_5
        refine g_if_eq C dX10_setAfter_57 (tgt := 70) (by decide) (fun c_57 => ?_) (fun c_57 => ?_)
        · try simp only [sa_ap, si_ap, reduceIte, Nat.reduceEqDiff, up_us, lg_cmp_lt, lg_cmp_gt, lg_cmp_le, lg_cmp_ge] at c_57
          refine g_aload_n C dX10_setAfter_70 0 rfl ?_
          refine gf_X10_steps C tw324 dX10_setAfter_71 ?_
          refine g_iload_n C dX10_setAfter_74 1 rfl ?_
          refine g_iload_n C dX10_setAfter_75 2 rfl ?_
          refine g_callViW C dX10_setAfter_76 (c_X8_putBehind _ _ _ _ _ _ _ _ _ j (by omega) _) tw602 tw603 tw604 tw3 tw605 (rv_X8 C) rfl ⟨by decide +kernel, by decide +kernel, rfl⟩ ⟨rfl, rfl⟩ (by rw [hR]; decide) (Nat.le_of_ble_eq_true rfl) (by rw [hR]; decide) (fun r_7 X1 M1 K1 h_8 => ?_)
          obtain ⟨er_7, hX1, hM1, hK1⟩ := h_8
          subst X1 M1 K1
          try simp only [sa_ap, si_ap, reduceIte, Nat.reduceEqDiff] at er_7
          refine g_iretW C hr hQ (Nat.le_refl _) (Nat.le_refl _) dX10_setAfter_79 ?_
          exact ⟨(by first | with_reducible rfl | (subst er_1 er_3 er_5 er_7; first | with_reducible rfl | (simp only [sa_ap, si_ap, si_sa, sa_sa, sa_3, sa_4, sa_5, sa_6, sa_7, sa_8, xk_after, up_us, up_up, c_11, c_clj, c_25, c_40, c_57]; done) | (simp [sa_ap, si_ap, si_sa, sa_sa, sa_3, sa_4, sa_5, sa_6, sa_7, sa_8, xk_after, up_us, up_up, c_11, c_clj, c_25, c_40, c_57]; done))), (by first | with_reducible rfl | (subst er_1 er_3 er_5 er_7; first | with_reducible rfl | (simp only [sa_ap, si_ap, si_sa, sa_sa, sa_3, sa_4, sa_5, sa_6, sa_7, sa_8, xk_after, up_us, up_up, c_11, c_clj, c_25, c_40, c_57]; done) | (simp [sa_ap, si_ap, si_sa, sa_sa, sa_3, sa_4, sa_5, sa_6, sa_7, sa_8, xk_after, up_us, up_up, c_11, c_clj, c_25, c_40, c_57]; done))), rfl, rfl⟩
        · try simp only [sa_ap, si_ap, reduceIte, Nat.reduceEqDiff, up_us, lg_cmp_lt, lg_cmp_gt, lg_cmp_le, lg_cmp_ge] at c_57
          exact absurd hx (by first | with_reducible rfl | (subst er_1 er_3 er_5; first | with_reducible rfl | (simp only [sa_ap, si_ap, si_sa, sa_sa, sa_3, sa_4, sa_5, sa_6, sa_7, sa_8, xk_after, up_us, up_up, c_11, c_clj, c_25, c_40, c_57]; done) | (simp [sa_ap, si_ap, si_sa, sa_sa, sa_3, sa_4, sa_5, sa_6, sa_7, sa_8, xk_after, up_us, up_up, c_11, c_clj, c_25, c_40, c_57]; done)))
      · try simp only [sa_ap, si_ap, reduceIte, Nat.reduceEqDiff, up_us, lg_cmp_lt, lg_cmp_gt, lg_cmp_le, lg_cmp_ge] at c_40
        exact absurd hx (by first | with_reducible rfl | (subst er_1 er_3; first | with_reducible rfl | (simp only [sa_ap, si_ap, si_sa, sa_sa, sa_3, sa_4, sa_5, sa_6, sa_7, sa_8, xk_after, up_us, up_up, c_11, c_clj, c_25, c_40]; done) | (simp [sa_ap, si_ap, si_sa, sa_sa, sa_3, sa_4, sa_5, sa_6, sa_7, sa_8, xk_after, up_us, up_up, c_11, c_clj, c_25, c_40]; done)))
    · try simp only [sa_ap, si_ap, reduceIte, Nat.reduceEqDiff, up_us, lg_cmp_lt, lg_cmp_gt, lg_cmp_le, lg_cmp_ge] at c_25
      exact absurd hx (by first | with_reducible rfl | (subst er_1 er_3; first | with_reducible rfl | (simp only [sa_ap, si_ap, si_sa, sa_sa, sa_3, sa_4, sa_5, sa_6, sa_7, sa_8, xk_after, up_us, up_up, c_11, c_clj, c_25]; done) | (simp [sa_ap, si_ap, si_sa, sa_sa, sa_3, sa_4, sa_5, sa_6, sa_7, sa_8, xk_after, up_us, up_up, c_11, c_clj, c_25]; done)))

set_option maxHeartbeats 400000 in
set_option maxRecDepth 100000 in
/-- stepState.stepState -/
theorem n_X10_stepState (l : Launch) (D : va_G) (cy : Nat → ClassId) (A : Nat → Prop) (ad sad : Nat → Nat) (X M : XF) (K : KF) (p1 : Int32) (z : Nat) (hz : X 102 0 = nI z) (hzl : z ≤ 16) (hc : ∀ i : Nat, isCh (X 12 i)) (hx : xk_b p1 (nI z) = 0) : Met l yX10_stepState (wsA yX10_stepState cX10_stepState 2 (some .char)) ({ frames := 1, cells := 0, slots := 0, locals := 21 }) (PcW D cy A ad sad X M K [.ref (ad 0), .int p1]) (QiW D cy A ad (fun r X1 M1 K1 => r = X 12 p1.toNatClampNeg ∧ X1 = X ∧ M1 = M ∧ K1 = K)) 0 0 A := by
  refine met_ofW [(0, .ref (ad 0)), (1, .int p1)] (by decide +kernel) (Nat.le_of_ble_eq_true rfl) rfl ?_
  intro G C hl hR hL hD hcy hA had hsa hr hQ
  subst hD hcy hA had hsa hl
  refine g_iload_n C dX10_stepState_0 1 rfl ?_
  refine g_aload_n C dX10_stepState_1 0 rfl ?_
  refine gf_X10_steps C tw324 dX10_stepState_2 ?_
  refine gf_X8_size C tw87 dX10_stepState_5 ?_
  refine g_topi hz ?_
  refine g_callSiW C dX10_stepState_8 (c_X10_isBelow _ _ _ _ _ _ _ _ _ _ _) tw499 tw500 tw1 tw501 rfl ⟨by decide +kernel, by decide +kernel, rfl⟩ ⟨rfl, rfl⟩ (by rw [hR]; decide) (Nat.le_of_ble_eq_true rfl) (by rw [hR]; decide) (fun r_1 X1 M1 K1 h_2 => ?_)
  obtain ⟨er_1, hX1, hM1, hK1⟩ := h_2
  subst X1 M1 K1
  try simp only [sa_ap, si_ap, reduceIte, Nat.reduceEqDiff] at er_1
  refine g_if_ne C dX10_stepState_11 (tgt := 24) (by decide) (fun c_11 => ?_) (fun c_11 => ?_)
  · try simp only [sa_ap, si_ap, reduceIte, Nat.reduceEqDiff, up_us, lg_cmp_lt, lg_cmp_gt, lg_cmp_le, lg_cmp_ge] at c_11
    obtain ⟨j, hj, rfl⟩ := bel_ix (p := p1) (s := nI z) (n := z) rfl (by omega) (by rw [← er_1]; exact c_11)
    have c_clj : (nI j).toNatClampNeg = j := nI_clamp (by omega)
    refine g_aload_n C dX10_stepState_24 0 rfl ?_
    refine gf_X10_steps C tw324 dX10_stepState_25 ?_
    refine gf_X8_state C tw85 dX10_stepState_28 ?_
    refine g_iload_n C dX10_stepState_31 1 rfl ?_
    refine al_12 C (by omega) dX10_stepState_32 ?_
    refine g_zretW C hr (hc _).1 hQ (Nat.le_refl _) (Nat.le_refl _) dX10_stepState_33 ?_
    exact ⟨(by first | with_reducible rfl | (subst er_1; first | with_reducible rfl | (simp only [sa_ap, si_ap, si_sa, sa_sa, sa_3, sa_4, sa_5, sa_6, sa_7, sa_8, xk_b, up_us, up_up, c_11, c_clj]; done) | (simp [sa_ap, si_ap, si_sa, sa_sa, sa_3, sa_4, sa_5, sa_6, sa_7, sa_8, xk_b, up_us, up_up, c_11, c_clj]; done))), (by first | with_reducible rfl | (subst er_1; first | with_reducible rfl | (simp only [sa_ap, si_ap, si_sa, sa_sa, sa_3, sa_4, sa_5, sa_6, sa_7, sa_8, xk_b, up_us, up_up, c_11, c_clj]; done) | (simp [sa_ap, si_ap, si_sa, sa_sa, sa_3, sa_4, sa_5, sa_6, sa_7, sa_8, xk_b, up_us, up_up, c_11, c_clj]; done))), rfl, rfl⟩
  · try simp only [sa_ap, si_ap, reduceIte, Nat.reduceEqDiff, up_us, lg_cmp_lt, lg_cmp_gt, lg_cmp_le, lg_cmp_ge] at c_11
    exact absurd hx (by first | with_reducible rfl | (subst er_1; first | with_reducible rfl | (simp only [sa_ap, si_ap, si_sa, sa_sa, sa_3, sa_4, sa_5, sa_6, sa_7, sa_8, xk_b, up_us, up_up, c_11]; done) | (simp [sa_ap, si_ap, si_sa, sa_sa, sa_3, sa_4, sa_5, sa_6, sa_7, sa_8, xk_b, up_us, up_up, c_11]; done)))

set_option maxHeartbeats 400000 in
set_option maxRecDepth 100000 in
/-- sense.sense -/
theorem n_X10_sense (l : Launch) (D : va_G) (cy : Nat → ClassId) (A : Nat → Prop) (ad sad : Nat → Nat) (X M : XF) (K : KF) (p1 p2 : Int32) (hx : xk_sense p1 p2 = 0) : Met l yX10_sense (wsA yX10_sense cX10_sense 3 (some .int)) ({ frames := 2, cells := 0, slots := 0, locals := 49 }) (PcW D cy A ad sad X M K [.ref (ad 0), .int p1, .int p2]) (QiW D cy A ad (fun r X1 M1 K1 => r = sn_tell (X 19) (upd (X 18) p1.toNatClampNeg p2) (p1.toNatClampNeg / 3) ∧ X1 = sa X 18 (upd (X 18) p1.toNatClampNeg p2) ∧ M1 = M ∧ K1 = K)) 0 0 A := by
  refine met_ofW [(0, .ref (ad 0)), (1, .int p1), (2, .int p2)] (by decide +kernel) (Nat.le_of_ble_eq_true rfl) rfl ?_
  intro G C hl hR hL hD hcy hA had hsa hr hQ
  subst hD hcy hA had hsa hl
  refine g_iload_n C dX10_sense_0 1 rfl ?_
  refine g_bipush C dX10_sense_1 (v := 9) (by decide) ?_
  refine g_callSiW C dX10_sense_3 (c_X10_isBelow _ _ _ _ _ _ _ _ _ _ _) tw499 tw500 tw1 tw501 rfl ⟨by decide +kernel, by decide +kernel, rfl⟩ ⟨rfl, rfl⟩ (by rw [hR]; decide) (Nat.le_of_ble_eq_true rfl) (by rw [hR]; decide) (fun r_1 X1 M1 K1 h_2 => ?_)
  obtain ⟨er_1, hX1, hM1, hK1⟩ := h_2
  subst X1 M1 K1
  try simp only [sa_ap, si_ap, reduceIte, Nat.reduceEqDiff] at er_1
  refine g_if_eq C dX10_sense_6 (tgt := 22) (by decide) (fun c_6 => ?_) (fun c_6 => ?_)
  · try simp only [sa_ap, si_ap, reduceIte, Nat.reduceEqDiff, up_us, lg_cmp_lt, lg_cmp_gt, lg_cmp_le, lg_cmp_ge] at c_6
    exact absurd hx (by first | with_reducible rfl | (subst er_1; first | with_reducible rfl | (simp only [sa_ap, si_ap, si_sa, sa_sa, sa_3, sa_4, sa_5, sa_6, sa_7, sa_8, xk_sense, up_us, up_up, c_6]; done) | (simp [sa_ap, si_ap, si_sa, sa_sa, sa_3, sa_4, sa_5, sa_6, sa_7, sa_8, xk_sense, up_us, up_up, c_6]; done)))
  · try simp only [sa_ap, si_ap, reduceIte, Nat.reduceEqDiff, up_us, lg_cmp_lt, lg_cmp_gt, lg_cmp_le, lg_cmp_ge] at c_6
    obtain ⟨j, hj, rfl⟩ := bel_ix (p := p1) (s := 9) (n := 9) rfl (by omega) (by rw [← er_1]; exact c_6)
    have c_clj : (nI j).toNatClampNeg = j := nI_clamp (by omega)
    refine g_iload_n C dX10_sense_9 2 rfl ?_
    refine g_sipush C dX10_sense_10 (v := (-9999)) (by decide) ?_
    refine g_sipush C dX10_sense_13 (v := 9999) (by decide) ?_
    refine g_callSiW C dX10_sense_16 (c_X10_isWithin _ _ _ _ _ _ _ _ _ _ _ _) tw503 tw504 tw1 tw505 rfl ⟨by decide +kernel, by decide +kernel, rfl⟩ ⟨rfl, rfl⟩ (by rw [hR]; decide) (Nat.le_of_ble_eq_true rfl) (by rw [hR]; decide) (fun r_3 X1 M1 K1 h_4 => ?_)
    obtain ⟨er_3, hX1, hM1, hK1⟩ := h_4
    subst X1 M1 K1
    try simp only [sa_ap, si_ap, reduceIte, Nat.reduceEqDiff] at er_3
    refine g_if_ne C dX10_sense_19 (tgt := 32) (by decide) (fun c_19 => ?_) (fun c_19 => ?_)
    · try simp only [sa_ap, si_ap, reduceIte, Nat.reduceEqDiff, up_us, lg_cmp_lt, lg_cmp_gt, lg_cmp_le, lg_cmp_ge] at c_19
      refine g_aload_n C dX10_sense_32 0 rfl ?_
      refine gf_X10_sensors C tw326 dX10_sense_33 ?_
      refine gf_X7_told C tw130 dX10_sense_36 ?_
      refine g_iload_n C dX10_sense_39 1 rfl ?_
      refine g_iload_n C dX10_sense_40 2 rfl ?_
      refine as_18 C (by omega) dX10_sense_41 ?_
      refine g_aload_n C dX10_sense_42 0 rfl ?_
      refine gf_X10_sensors C tw326 dX10_sense_43 ?_
      refine g_iload_n C dX10_sense_46 1 rfl ?_
      refine g_iconst C dX10_sense_47 (v := 3) (by decide) ?_
      refine g_idiv C dX10_sense_48 (by decide) ?_
      refine g_topi (sn_d hj) ?_
      refine g_callViW C dX10_sense_49 (c_X7_tellTogether _ _ _ _ _ _ _ _ _ (j / 3) (by omega)) tw649 tw650 tw651 tw5 tw652 (rv_X7 C) rfl ⟨by decide +kernel, by decide +kernel, rfl⟩ ⟨rfl, rfl⟩ (by rw [hR]; decide) (Nat.le_of_ble_eq_true rfl) (by rw [hR]; decide) (fun r_5 X1 M1 K1 h_6 => ?_)
      obtain ⟨er_5, hX1, hM1, hK1⟩ := h_6
      subst X1 M1 K1
      try simp only [sa_ap, si_ap, reduceIte, Nat.reduceEqDiff] at er_5
      refine g_iretW C hr hQ (Nat.le_refl _) (Nat.le_refl _) dX10_sense_52 ?_
      exact ⟨(by first | with_reducible rfl | (subst er_1 er_3 er_5; first | with_reducible rfl | (simp only [sa_ap, si_ap, si_sa, sa_sa, sa_3, sa_4, sa_5, sa_6, sa_7, sa_8, xk_sense, up_us, up_up, c_6, c_clj, c_19]; done) | (simp [sa_ap, si_ap, si_sa, sa_sa, sa_3, sa_4, sa_5, sa_6, sa_7, sa_8, xk_sense, up_us, up_up, c_6, c_clj, c_19]; done))), (by first | with_reducible rfl | (subst er_1 er_3 er_5; first | with_reducible rfl | (simp only [sa_ap, si_ap, si_sa, sa_sa, sa_3, sa_4, sa_5, sa_6, sa_7, sa_8, xk_sense, up_us, up_up, c_6, c_clj, c_19]; done) | (simp [sa_ap, si_ap, si_sa, sa_sa, sa_3, sa_4, sa_5, sa_6, sa_7, sa_8, xk_sense, up_us, up_up, c_6, c_clj, c_19]; done))), rfl, rfl⟩
    · try simp only [sa_ap, si_ap, reduceIte, Nat.reduceEqDiff, up_us, lg_cmp_lt, lg_cmp_gt, lg_cmp_le, lg_cmp_ge] at c_19
      exact absurd hx (by first | with_reducible rfl | (subst er_1 er_3; first | with_reducible rfl | (simp only [sa_ap, si_ap, si_sa, sa_sa, sa_3, sa_4, sa_5, sa_6, sa_7, sa_8, xk_sense, up_us, up_up, c_6, c_clj, c_19]; done) | (simp [sa_ap, si_ap, si_sa, sa_sa, sa_3, sa_4, sa_5, sa_6, sa_7, sa_8, xk_sense, up_us, up_up, c_6, c_clj, c_19]; done)))

set_option maxHeartbeats 400000 in
set_option maxRecDepth 100000 in
/-- setWind.setWind -/
theorem n_X10_setWind (l : Launch) (D : va_G) (cy : Nat → ClassId) (A : Nat → Prop) (ad sad : Nat → Nat) (X M : XF) (K : KF) (p1 : Int32) (hx : xk_w 0 200 p1 = 0) : Met l yX10_setWind (wsA yX10_setWind cX10_setWind 3 (some .int)) ({ frames := 1, cells := 0, slots := 0, locals := 22 }) (PcW D cy A ad sad X M K [.ref (ad 0), .int p1]) (QiW D cy A ad (fun r X1 M1 K1 => r = X 100 0 ∧ X1 = si X 100 p1 ∧ M1 = M ∧ K1 = K)) 0 0 A := by
  refine met_ofW [(0, .ref (ad 0)), (1, .int p1)] (by decide +kernel) (Nat.le_of_ble_eq_true rfl) rfl ?_
  intro G C hl hR hL hD hcy hA had hsa hr hQ
  subst hD hcy hA had hsa hl
  refine g_iload_n C dX10_setWind_0 1 rfl ?_
  refine g_iconst C dX10_setWind_1 (v := 0) (by decide) ?_
  refine g_sipush C dX10_setWind_2 (v := 200) (by decide) ?_
  refine g_callSiW C dX10_setWind_5 (c_X10_isWithin _ _ _ _ _ _ _ _ _ _ _ _) tw503 tw504 tw1 tw505 rfl ⟨by decide +kernel, by decide +kernel, rfl⟩ ⟨rfl, rfl⟩ (by rw [hR]; decide) (Nat.le_of_ble_eq_true rfl) (by rw [hR]; decide) (fun r_1 X1 M1 K1 h_2 => ?_)
  obtain ⟨er_1, hX1, hM1, hK1⟩ := h_2
  subst X1 M1 K1
  try simp only [sa_ap, si_ap, reduceIte, Nat.reduceEqDiff] at er_1
  refine g_if_ne C dX10_setWind_8 (tgt := 21) (by decide) (fun c_8 => ?_) (fun c_8 => ?_)
  · try simp only [sa_ap, si_ap, reduceIte, Nat.reduceEqDiff, up_us, lg_cmp_lt, lg_cmp_gt, lg_cmp_le, lg_cmp_ge] at c_8
    refine g_aload_n C dX10_setWind_21 0 rfl ?_
    refine gf_X10_windNow C tw334 dX10_setWind_22 ?_
    refine g_namei (fun v_3 ev_3 => ?_)
    refine g_istore_n C dX10_setWind_25 (L' := [(2, .int v_3), (0, .ref (gad G 0)), (1, .int p1)]) rfl (by rw [hL]; decide) ?_
    refine g_aload_n C dX10_setWind_26 1 rfl ?_
    refine g_iload_n C dX10_setWind_27 2 rfl ?_
    refine pf_X10_windNow C tw334 dX10_setWind_28 ?_
    refine g_iload_n C dX10_setWind_31 0 rfl ?_
    refine g_iretW C hr hQ (Nat.le_refl _) (Nat.le_refl _) dX10_setWind_32 ?_
    exact ⟨(by first | with_reducible rfl | (subst er_1 ev_3; first | with_reducible rfl | (simp only [sa_ap, si_ap, si_sa, sa_sa, sa_3, sa_4, sa_5, sa_6, sa_7, sa_8, xk_w, up_us, up_up, c_8]; done) | (simp [sa_ap, si_ap, si_sa, sa_sa, sa_3, sa_4, sa_5, sa_6, sa_7, sa_8, xk_w, up_us, up_up, c_8]; done))), (by first | with_reducible rfl | (subst er_1 ev_3; first | with_reducible rfl | (simp only [sa_ap, si_ap, si_sa, sa_sa, sa_3, sa_4, sa_5, sa_6, sa_7, sa_8, xk_w, up_us, up_up, c_8]; done) | (simp [sa_ap, si_ap, si_sa, sa_sa, sa_3, sa_4, sa_5, sa_6, sa_7, sa_8, xk_w, up_us, up_up, c_8]; done))), rfl, rfl⟩
  · try simp only [sa_ap, si_ap, reduceIte, Nat.reduceEqDiff, up_us, lg_cmp_lt, lg_cmp_gt, lg_cmp_le, lg_cmp_ge] at c_8
    exact absurd hx (by first | with_reducible rfl | (subst er_1; first | with_reducible rfl | (simp only [sa_ap, si_ap, si_sa, sa_sa, sa_3, sa_4, sa_5, sa_6, sa_7, sa_8, xk_w, up_us, up_up, c_8]; done) | (simp [sa_ap, si_ap, si_sa, sa_sa, sa_3, sa_4, sa_5, sa_6, sa_7, sa_8, xk_w, up_us, up_up, c_8]; done)))

set_option maxHeartbeats 400000 in
set_option maxRecDepth 100000 in
/-- strike.strike -/
theorem n_X10_strike (l : Launch) (D : va_G) (cy : Nat → ClassId) (A : Nat → Prop) (ad sad : Nat → Nat) (X M : XF) (K : KF) (p1 : Int32) (t : Nat) (ht0 : X 101 0 = nI t) (htl : t < 2 ^ 31) (hx : xk_w 0 99 p1 = 0) : Met l yX10_strike (wsA yX10_strike cX10_strike 2 (some .int)) ({ frames := 1, cells := 0, slots := 0, locals := 22 }) (PcW D cy A ad sad X M K [.ref (ad 0), .int p1]) (QiW D cy A ad (fun r X1 M1 K1 => r = (if 20 < p1 then X 104 0 else X 104 0 + 1) ∧ X1 = (if 20 < p1 then X else si (sa X 21 (upd (X 21) (t % 600) (X 21 (t % 600) + 1))) 104 (X 104 0 + 1)) ∧ M1 = M ∧ K1 = K)) 0 0 A := by
  refine met_ofW [(0, .ref (ad 0)), (1, .int p1)] (by decide +kernel) (Nat.le_of_ble_eq_true rfl) rfl ?_
  intro G C hl hR hL hD hcy hA had hsa hr hQ
  subst hD hcy hA had hsa hl
  refine g_iload_n C dX10_strike_0 1 rfl ?_
  refine g_iconst C dX10_strike_1 (v := 0) (by decide) ?_
  refine g_bipush C dX10_strike_2 (v := 99) (by decide) ?_
  refine g_callSiW C dX10_strike_4 (c_X10_isWithin _ _ _ _ _ _ _ _ _ _ _ _) tw503 tw504 tw1 tw505 rfl ⟨by decide +kernel, by decide +kernel, rfl⟩ ⟨rfl, rfl⟩ (by rw [hR]; decide) (Nat.le_of_ble_eq_true rfl) (by rw [hR]; decide) (fun r_1 X1 M1 K1 h_2 => ?_)
  obtain ⟨er_1, hX1, hM1, hK1⟩ := h_2
  subst X1 M1 K1
  try simp only [sa_ap, si_ap, reduceIte, Nat.reduceEqDiff] at er_1
  refine g_if_ne C dX10_strike_7 (tgt := 20) (by decide) (fun c_7 => ?_) (fun c_7 => ?_)
  · try simp only [sa_ap, si_ap, reduceIte, Nat.reduceEqDiff, up_us, lg_cmp_lt, lg_cmp_gt, lg_cmp_le, lg_cmp_ge] at c_7
    refine g_iload_n C dX10_strike_20 1 rfl ?_
    refine g_bipush C dX10_strike_21 (v := 20) (by decide) ?_
    refine g_icmp_gt C dX10_strike_23 (tgt := 37) (by decide) (fun c_23 => ?_) (fun c_23 => ?_)
    · try simp only [sa_ap, si_ap, reduceIte, Nat.reduceEqDiff, up_us, lg_cmp_lt, lg_cmp_gt, lg_cmp_le, lg_cmp_ge] at c_23
      refine g_aload_n C dX10_strike_37 0 rfl ?_
      refine gf_X10_lightnings C tw327 dX10_strike_38 ?_
      refine gf_X3_near C tw146 dX10_strike_41 ?_
      refine g_iretW C hr hQ (Nat.le_refl _) (Nat.le_refl _) dX10_strike_44 ?_
      exact ⟨(by first | with_reducible rfl | (subst er_1; first | with_reducible rfl | (simp only [sa_ap, si_ap, si_sa, sa_sa, sa_3, sa_4, sa_5, sa_6, sa_7, sa_8, xk_w, up_us, up_up, c_7, c_23]; done) | (simp [sa_ap, si_ap, si_sa, sa_sa, sa_3, sa_4, sa_5, sa_6, sa_7, sa_8, xk_w, up_us, up_up, c_7, c_23]; done))), (by first | with_reducible rfl | (subst er_1; first | with_reducible rfl | (simp only [sa_ap, si_ap, si_sa, sa_sa, sa_3, sa_4, sa_5, sa_6, sa_7, sa_8, xk_w, up_us, up_up, c_7, c_23]; done) | (simp [sa_ap, si_ap, si_sa, sa_sa, sa_3, sa_4, sa_5, sa_6, sa_7, sa_8, xk_w, up_us, up_up, c_7, c_23]; done))), rfl, rfl⟩
    · try simp only [sa_ap, si_ap, reduceIte, Nat.reduceEqDiff, up_us, lg_cmp_lt, lg_cmp_gt, lg_cmp_le, lg_cmp_ge] at c_23
      refine g_aload_n C dX10_strike_26 0 rfl ?_
      refine gf_X10_lightnings C tw327 dX10_strike_27 ?_
      refine g_aload_n C dX10_strike_30 0 rfl ?_
      refine gf_X10_now C tw335 dX10_strike_31 ?_
      refine g_topi ht0 ?_
      refine g_callVvW C dX10_strike_34 (c_X3_tell _ _ _ _ _ _ _ _ _ t htl) tw682 tw683 tw684 tw6 tw685 (rv_X3 C) rfl ⟨by decide +kernel, by decide +kernel, rfl⟩ ⟨rfl, rfl⟩ (by rw [hR]; decide) (Nat.le_of_ble_eq_true rfl) (by rw [hR]; decide) (fun X1 M1 K1 h_3 => ?_)
      obtain ⟨hX1, hM1, hK1⟩ := h_3
      subst X1 M1 K1
      refine g_aload_n C dX10_strike_37 0 rfl ?_
      refine gf_X10_lightnings C tw327 dX10_strike_38 ?_
      refine gf_X3_near C tw146 dX10_strike_41 ?_
      refine g_iretW C hr hQ (Nat.le_refl _) (Nat.le_refl _) dX10_strike_44 ?_
      exact ⟨(by first | with_reducible rfl | (subst er_1; first | with_reducible rfl | (simp only [sa_ap, si_ap, si_sa, sa_sa, sa_3, sa_4, sa_5, sa_6, sa_7, sa_8, xk_w, up_us, up_up, c_7, c_23]; done) | (simp [sa_ap, si_ap, si_sa, sa_sa, sa_3, sa_4, sa_5, sa_6, sa_7, sa_8, xk_w, up_us, up_up, c_7, c_23]; done))), (by first | with_reducible rfl | (subst er_1; first | with_reducible rfl | (simp only [sa_ap, si_ap, si_sa, sa_sa, sa_3, sa_4, sa_5, sa_6, sa_7, sa_8, xk_w, up_us, up_up, c_7, c_23]; done) | (simp [sa_ap, si_ap, si_sa, sa_sa, sa_3, sa_4, sa_5, sa_6, sa_7, sa_8, xk_w, up_us, up_up, c_7, c_23]; done))), rfl, rfl⟩
  · try simp only [sa_ap, si_ap, reduceIte, Nat.reduceEqDiff, up_us, lg_cmp_lt, lg_cmp_gt, lg_cmp_le, lg_cmp_ge] at c_7
    exact absurd hx (by first | with_reducible rfl | (subst er_1; first | with_reducible rfl | (simp only [sa_ap, si_ap, si_sa, sa_sa, sa_3, sa_4, sa_5, sa_6, sa_7, sa_8, xk_w, up_us, up_up, c_7]; done) | (simp [sa_ap, si_ap, si_sa, sa_sa, sa_3, sa_4, sa_5, sa_6, sa_7, sa_8, xk_w, up_us, up_up, c_7]; done)))

set_option maxHeartbeats 400000 in
set_option maxRecDepth 100000 in
/-- boat.boat -/
theorem n_X10_boat (l : Launch) (D : va_G) (cy : Nat → ClassId) (A : Nat → Prop) (ad sad : Nat → Nat) (X M : XF) (K : KF) (p1 p2 p3 : Int32) (hx : xk_boat p1 p2 p3 = 0) : Met l yX10_boat (wsA yX10_boat cX10_boat 4 (some .int)) ({ frames := 2, cells := 0, slots := 0, locals := 44 }) (PcW D cy A ad sad X M K [.ref (ad 0), .int p1, .int p2, .int p3]) (QiW D cy A ad (fun r X1 M1 K1 => r = bt_sum (upd (X 23) p1.toNatClampNeg (bt_risk p2 p3)) 8 ∧ X1 = sa X 23 (upd (X 23) p1.toNatClampNeg (bt_risk p2 p3)) ∧ M1 = M ∧ K1 = K)) 0 0 A := by
  refine met_ofW [(0, .ref (ad 0)), (1, .int p1), (2, .int p2), (3, .int p3)] (by decide +kernel) (Nat.le_of_ble_eq_true rfl) rfl ?_
  intro G C hl hR hL hD hcy hA had hsa hr hQ
  subst hD hcy hA had hsa hl
  refine g_iload_n C dX10_boat_0 1 rfl ?_
  refine g_bipush C dX10_boat_1 (v := 8) (by decide) ?_
  refine g_callSiW C dX10_boat_3 (c_X10_isBelow _ _ _ _ _ _ _ _ _ _ _) tw499 tw500 tw1 tw501 rfl ⟨by decide +kernel, by decide +kernel, rfl⟩ ⟨rfl, rfl⟩ (by rw [hR]; decide) (Nat.le_of_ble_eq_true rfl) (by rw [hR]; decide) (fun r_1 X1 M1 K1 h_2 => ?_)
  obtain ⟨er_1, hX1, hM1, hK1⟩ := h_2
  subst X1 M1 K1
  try simp only [sa_ap, si_ap, reduceIte, Nat.reduceEqDiff] at er_1
  refine g_if_eq C dX10_boat_6 (tgt := 29) (by decide) (fun c_6 => ?_) (fun c_6 => ?_)
  · try simp only [sa_ap, si_ap, reduceIte, Nat.reduceEqDiff, up_us, lg_cmp_lt, lg_cmp_gt, lg_cmp_le, lg_cmp_ge] at c_6
    exact absurd hx (by first | with_reducible rfl | (subst er_1; first | with_reducible rfl | (simp only [sa_ap, si_ap, si_sa, sa_sa, sa_3, sa_4, sa_5, sa_6, sa_7, sa_8, xk_boat, up_us, up_up, c_6]; done) | (simp [sa_ap, si_ap, si_sa, sa_sa, sa_3, sa_4, sa_5, sa_6, sa_7, sa_8, xk_boat, up_us, up_up, c_6]; done)))
  · try simp only [sa_ap, si_ap, reduceIte, Nat.reduceEqDiff, up_us, lg_cmp_lt, lg_cmp_gt, lg_cmp_le, lg_cmp_ge] at c_6
    obtain ⟨j, hj, rfl⟩ := bel_ix (p := p1) (s := 8) (n := 8) rfl (by omega) (by rw [← er_1]; exact c_6)
    have c_clj : (nI j).toNatClampNeg = j := nI_clamp (by omega)
    refine g_iload_n C dX10_boat_9 2 rfl ?_
    refine g_iconst C dX10_boat_10 (v := 0) (by decide) ?_
    refine g_bipush C dX10_boat_11 (v := 50) (by decide) ?_
    refine g_callSiW C dX10_boat_13 (c_X10_isWithin _ _ _ _ _ _ _ _ _ _ _ _) tw503 tw504 tw1 tw505 rfl ⟨by decide +kernel, by decide +kernel, rfl⟩ ⟨rfl, rfl⟩ (by rw [hR]; decide) (Nat.le_of_ble_eq_true rfl) (by rw [hR]; decide) (fun r_3 X1 M1 K1 h_4 => ?_)
    obtain ⟨er_3, hX1, hM1, hK1⟩ := h_4
    subst X1 M1 K1
    try simp only [sa_ap, si_ap, reduceIte, Nat.reduceEqDiff] at er_3
    refine g_if_eq C dX10_boat_16 (tgt := 29) (by decide) (fun c_16 => ?_) (fun c_16 => ?_)
    · try simp only [sa_ap, si_ap, reduceIte, Nat.reduceEqDiff, up_us, lg_cmp_lt, lg_cmp_gt, lg_cmp_le, lg_cmp_ge] at c_16
      exact absurd hx (by first | with_reducible rfl | (subst er_1 er_3; first | with_reducible rfl | (simp only [sa_ap, si_ap, si_sa, sa_sa, sa_3, sa_4, sa_5, sa_6, sa_7, sa_8, xk_boat, up_us, up_up, c_6, c_clj, c_16]; done) | (simp [sa_ap, si_ap, si_sa, sa_sa, sa_3, sa_4, sa_5, sa_6, sa_7, sa_8, xk_boat, up_us, up_up, c_6, c_clj, c_16]; done)))
    · try simp only [sa_ap, si_ap, reduceIte, Nat.reduceEqDiff, up_us, lg_cmp_lt, lg_cmp_gt, lg_cmp_le, lg_cmp_ge] at c_16
      refine g_iload_n C dX10_boat_19 3 rfl ?_
      refine g_iconst C dX10_boat_20 (v := 0) (by decide) ?_
      refine g_bipush C dX10_boat_21 (v := 99) (by decide) ?_
      refine g_callSiW C dX10_boat_23 (c_X10_isWithin _ _ _ _ _ _ _ _ _ _ _ _) tw503 tw504 tw1 tw505 rfl ⟨by decide +kernel, by decide +kernel, rfl⟩ ⟨rfl, rfl⟩ (by rw [hR]; decide) (Nat.le_of_ble_eq_true rfl) (by rw [hR]; decide) (fun r_5 X1 M1 K1 h_6 => ?_)
      obtain ⟨er_5, hX1, hM1, hK1⟩ := h_6
      subst X1 M1 K1
      try simp only [sa_ap, si_ap, reduceIte, Nat.reduceEqDiff] at er_5
      refine g_if_ne C dX10_boat_26 (tgt := 39) (by decide) (fun c_26 => ?_) (fun c_26 => ?_)
      · try simp only [sa_ap, si_ap, reduceIte, Nat.reduceEqDiff, up_us, lg_cmp_lt, lg_cmp_gt, lg_cmp_le, lg_cmp_ge] at c_26
        refine g_aload_n C dX10_boat_39 0 rfl ?_
        refine gf_X10_boats C tw328 dX10_boat_40 ?_
        refine g_iload_n C dX10_boat_43 1 rfl ?_
        refine g_iload_n C dX10_boat_44 2 rfl ?_
        refine g_iload_n C dX10_boat_45 3 rfl ?_
        refine g_callVvW C dX10_boat_46 (c_X0_tell _ _ _ _ _ _ _ _ _ j hj _ _) tw690 tw691 tw692 tw7 tw693 (rv_X0 C) rfl ⟨by decide +kernel, by decide +kernel, rfl⟩ ⟨rfl, rfl⟩ (by rw [hR]; decide) (Nat.le_of_ble_eq_true rfl) (by rw [hR]; decide) (fun X1 M1 K1 h_7 => ?_)
        obtain ⟨hX1, hM1, hK1⟩ := h_7
        subst X1 M1 K1
        refine g_aload_n C dX10_boat_49 0 rfl ?_
        refine gf_X10_boats C tw328 dX10_boat_50 ?_
        refine g_callViW C dX10_boat_53 (c_X0_sumOfRisks _ _ _ _ _ _ _ _ _ ) tw695 tw696 tw697 tw7 tw698 (rv_X0 C) rfl ⟨by decide +kernel, by decide +kernel, rfl⟩ ⟨rfl, rfl⟩ (by rw [hR]; decide) (Nat.le_of_ble_eq_true rfl) (by rw [hR]; decide) (fun r_8 X1 M1 K1 h_9 => ?_)
        obtain ⟨er_8, hX1, hM1, hK1⟩ := h_9
        subst X1 M1 K1
        try simp only [sa_ap, si_ap, reduceIte, Nat.reduceEqDiff] at er_8
        refine g_iretW C hr hQ (Nat.le_refl _) (Nat.le_refl _) dX10_boat_56 ?_
        exact ⟨(by first | with_reducible rfl | (subst er_1 er_3 er_5 er_8; first | with_reducible rfl | (simp only [sa_ap, si_ap, si_sa, sa_sa, sa_3, sa_4, sa_5, sa_6, sa_7, sa_8, xk_boat, up_us, up_up, c_6, c_clj, c_16, c_26]; done) | (simp [sa_ap, si_ap, si_sa, sa_sa, sa_3, sa_4, sa_5, sa_6, sa_7, sa_8, xk_boat, up_us, up_up, c_6, c_clj, c_16, c_26]; done))), (by first | with_reducible rfl | (subst er_1 er_3 er_5 er_8; first | with_reducible rfl | (simp only [sa_ap, si_ap, si_sa, sa_sa, sa_3, sa_4, sa_5, sa_6, sa_7, sa_8, xk_boat, up_us, up_up, c_6, c_clj, c_16, c_26]; done) | (simp [sa_ap, si_ap, si_sa, sa_sa, sa_3, sa_4, sa_5, sa_6, sa_7, sa_8, xk_boat, up_us, up_up, c_6, c_clj, c_16, c_26]; done))), rfl, rfl⟩
      · try simp only [sa_ap, si_ap, reduceIte, Nat.reduceEqDiff, up_us, lg_cmp_lt, lg_cmp_gt, lg_cmp_le, lg_cmp_ge] at c_26
        exact absurd hx (by first | with_reducible rfl | (subst er_1 er_3 er_5; first | with_reducible rfl | (simp only [sa_ap, si_ap, si_sa, sa_sa, sa_3, sa_4, sa_5, sa_6, sa_7, sa_8, xk_boat, up_us, up_up, c_6, c_clj, c_16, c_26]; done) | (simp [sa_ap, si_ap, si_sa, sa_sa, sa_3, sa_4, sa_5, sa_6, sa_7, sa_8, xk_boat, up_us, up_up, c_6, c_clj, c_16, c_26]; done)))

set_option maxHeartbeats 400000 in
set_option maxRecDepth 100000 in
/-- addRule.addRule -/
theorem n_X10_addRule (l : Launch) (D : va_G) (cy : Nat → ClassId) (A : Nat → Prop) (ad sad : Nat → Nat) (X M : XF) (K : KF) (p1 p2 p3 p4 p5 : Int32) (h1 : isCh p1) (z : Nat) (hz : X 105 0 = nI z) (hzl : z ≤ 12) (hx : xk_rule (nI z) p1 p2 p3 p4 p5 = 0) : Met l yX10_addRule (wsA yX10_addRule cX10_addRule 6 (some .int)) ({ frames := 2, cells := 0, slots := 0, locals := 42 }) (PcW D cy A ad sad X M K [.ref (ad 0), .int p1, .int p2, .int p3, .int p4, .int p5]) (QiW D cy A ad (fun r X1 M1 K1 => r = nI z ∧ X1 = si (sa (sa (sa (sa (sa (sa X 25 (upd (X 25) z p1)) 26 (upd (X 26) z p2)) 27 (upd (X 27) z p3)) 28 (upd (X 28) z p4)) 29 (upd (X 29) z p5)) 33 (upd (X 33) z (-1))) 105 (nI z + 1) ∧ M1 = M ∧ K1 = K)) 0 0 A := by
  refine met_ofW [(0, .ref (ad 0)), (1, .int p1), (2, .int p2), (3, .int p3), (4, .int p4), (5, .int p5)] (by decide +kernel) (Nat.le_of_ble_eq_true rfl) rfl ?_
  intro G C hl hR hL hD hcy hA had hsa hr hQ
  subst hD hcy hA had hsa hl
  refine g_iload_n C dX10_addRule_0 1 rfl ?_
  refine g_iload_n C dX10_addRule_1 2 rfl ?_
  refine g_callSiW C dX10_addRule_2 (c_X10_isThing _ _ _ _ _ _ _ _ _ _ _) tw703 tw704 tw1 tw705 rfl ⟨by decide +kernel, by decide +kernel, rfl⟩ ⟨rfl, rfl⟩ (by rw [hR]; decide) (Nat.le_of_ble_eq_true rfl) (by rw [hR]; decide) (fun r_1 X1 M1 K1 h_2 => ?_)
  obtain ⟨er_1, hX1, hM1, hK1⟩ := h_2
  subst X1 M1 K1
  try simp only [sa_ap, si_ap, reduceIte, Nat.reduceEqDiff] at er_1
  refine g_if_eq C dX10_addRule_5 (tgt := 26) (by decide) (fun c_5 => ?_) (fun c_5 => ?_)
  · try simp only [sa_ap, si_ap, reduceIte, Nat.reduceEqDiff, up_us, lg_cmp_lt, lg_cmp_gt, lg_cmp_le, lg_cmp_ge] at c_5
    exact absurd hx (by first | with_reducible rfl | (subst er_1; first | with_reducible rfl | (simp only [sa_ap, si_ap, si_sa, sa_sa, sa_3, sa_4, sa_5, sa_6, sa_7, sa_8, xk_rule, up_us, up_up, c_5]; done) | (simp [sa_ap, si_ap, si_sa, sa_sa, sa_3, sa_4, sa_5, sa_6, sa_7, sa_8, xk_rule, up_us, up_up, c_5]; done)))
  · try simp only [sa_ap, si_ap, reduceIte, Nat.reduceEqDiff, up_us, lg_cmp_lt, lg_cmp_gt, lg_cmp_le, lg_cmp_ge] at c_5
    refine g_iload_n C dX10_addRule_8 3 rfl ?_
    refine g_iload C dX10_addRule_9 4 rfl ?_
    refine g_icmp_gt C dX10_addRule_11 (tgt := 26) (by decide) (fun c_11 => ?_) (fun c_11 => ?_)
    · try simp only [sa_ap, si_ap, reduceIte, Nat.reduceEqDiff, up_us, lg_cmp_lt, lg_cmp_gt, lg_cmp_le, lg_cmp_ge] at c_11
      exact absurd hx (by first | with_reducible rfl | (subst er_1; first | with_reducible rfl | (simp only [sa_ap, si_ap, si_sa, sa_sa, sa_3, sa_4, sa_5, sa_6, sa_7, sa_8, xk_rule, up_us, up_up, c_5, c_11]; done) | (simp [sa_ap, si_ap, si_sa, sa_sa, sa_3, sa_4, sa_5, sa_6, sa_7, sa_8, xk_rule, up_us, up_up, c_5, c_11]; done)))
    · try simp only [sa_ap, si_ap, reduceIte, Nat.reduceEqDiff, up_us, lg_cmp_lt, lg_cmp_gt, lg_cmp_le, lg_cmp_ge] at c_11
      refine g_iload C dX10_addRule_14 5 rfl ?_
      refine g_iconst C dX10_addRule_16 (v := 0) (by decide) ?_
      refine g_sipush C dX10_addRule_17 (v := 300) (by decide) ?_
      refine g_callSiW C dX10_addRule_20 (c_X10_isWithin _ _ _ _ _ _ _ _ _ _ _ _) tw503 tw504 tw1 tw505 rfl ⟨by decide +kernel, by decide +kernel, rfl⟩ ⟨rfl, rfl⟩ (by rw [hR]; decide) (Nat.le_of_ble_eq_true rfl) (by rw [hR]; decide) (fun r_3 X1 M1 K1 h_4 => ?_)
      obtain ⟨er_3, hX1, hM1, hK1⟩ := h_4
      subst X1 M1 K1
      try simp only [sa_ap, si_ap, reduceIte, Nat.reduceEqDiff] at er_3
      refine g_if_ne C dX10_addRule_23 (tgt := 36) (by decide) (fun c_23 => ?_) (fun c_23 => ?_)
      · try simp only [sa_ap, si_ap, reduceIte, Nat.reduceEqDiff, up_us, lg_cmp_lt, lg_cmp_gt, lg_cmp_le, lg_cmp_ge] at c_23
        refine g_aload_n C dX10_addRule_36 0 rfl ?_
        refine gf_X10_rules C tw329 dX10_addRule_37 ?_
        refine gf_X6_size C tw185 dX10_addRule_40 ?_
        refine g_topi hz ?_
        refine g_bipush C dX10_addRule_43 (v := 12) (by decide) ?_
        refine g_icmp_lt C dX10_addRule_45 (tgt := 58) (by decide) (fun c_45 => ?_) (fun c_45 => ?_)
        · try simp only [sa_ap, si_ap, reduceIte, Nat.reduceEqDiff, up_us, lg_cmp_lt, lg_cmp_gt, lg_cmp_le, lg_cmp_ge] at c_45
          have hlt : z < 12 := Nat.lt_of_le_of_ne hzl (fun q => absurd c_45 (by rw [q]; decide))
          refine g_aload_n C dX10_addRule_58 0 rfl ?_
          refine gf_X10_rules C tw329 dX10_addRule_59 ?_
          refine g_iload_n C dX10_addRule_62 1 rfl ?_
          refine g_iload_n C dX10_addRule_63 2 rfl ?_
          refine g_iload_n C dX10_addRule_64 3 rfl ?_
          refine g_iload C dX10_addRule_65 4 rfl ?_
          refine g_iload C dX10_addRule_67 5 rfl ?_
          refine g_callViW C dX10_addRule_69 (c_X6_append _ _ _ _ _ _ _ _ _ _ _ _ _ _ h1 z hz hlt) tw708 tw709 tw710 tw8 tw711 (rv_X6 C) rfl ⟨by decide +kernel, by decide +kernel, rfl⟩ ⟨rfl, rfl⟩ (by rw [hR]; decide) (Nat.le_of_ble_eq_true rfl) (by rw [hR]; decide) (fun r_5 X1 M1 K1 h_6 => ?_)
          obtain ⟨er_5, hX1, hM1, hK1⟩ := h_6
          subst X1 M1 K1
          try simp only [sa_ap, si_ap, reduceIte, Nat.reduceEqDiff] at er_5
          refine g_iretW C hr hQ (Nat.le_refl _) (Nat.le_refl _) dX10_addRule_72 ?_
          exact ⟨(by first | with_reducible rfl | (subst er_1 er_3 er_5; first | with_reducible rfl | (simp only [sa_ap, si_ap, si_sa, sa_sa, sa_3, sa_4, sa_5, sa_6, sa_7, sa_8, xk_rule, up_us, up_up, c_5, c_11, c_23, c_45]; done) | (simp [sa_ap, si_ap, si_sa, sa_sa, sa_3, sa_4, sa_5, sa_6, sa_7, sa_8, xk_rule, up_us, up_up, c_5, c_11, c_23, c_45]; done))), (by first | with_reducible rfl | (subst er_1 er_3 er_5; first | with_reducible rfl | (simp only [sa_ap, si_ap, si_sa, sa_sa, sa_3, sa_4, sa_5, sa_6, sa_7, sa_8, xk_rule, up_us, up_up, c_5, c_11, c_23, c_45]; done) | (simp [sa_ap, si_ap, si_sa, sa_sa, sa_3, sa_4, sa_5, sa_6, sa_7, sa_8, xk_rule, up_us, up_up, c_5, c_11, c_23, c_45]; done))), rfl, rfl⟩
        · try simp only [sa_ap, si_ap, reduceIte, Nat.reduceEqDiff, up_us, lg_cmp_lt, lg_cmp_gt, lg_cmp_le, lg_cmp_ge] at c_45
          exact absurd hx (by first | with_reducible rfl | (subst er_1 er_3; first | with_reducible rfl | (simp only [sa_ap, si_ap, si_sa, sa_sa, sa_3, sa_4, sa_5, sa_6, sa_7, sa_8, xk_rule, up_us, up_up, c_5, c_11, c_23, c_45]; done) | (simp [sa_ap, si_ap, si_sa, sa_sa, sa_3, sa_4, sa_5, sa_6, sa_7, sa_8, xk_rule, up_us, up_up, c_5, c_11, c_23, c_45]; done)))
      · try simp only [sa_ap, si_ap, reduceIte, Nat.reduceEqDiff, up_us, lg_cmp_lt, lg_cmp_gt, lg_cmp_le, lg_cmp_ge] at c_23
        exact absurd hx (by first | with_reducible rfl | (subst er_1 er_3; first | with_reducible rfl | (simp only [sa_ap, si_ap, si_sa, sa_sa, sa_3, sa_4, sa_5, sa_6, sa_7, sa_8, xk_rule, up_us, up_up, c_5, c_11, c_23]; done) | (simp [sa_ap, si_ap, si_sa, sa_sa, sa_3, sa_4, sa_5, sa_6, sa_7, sa_8, xk_rule, up_us, up_up, c_5, c_11, c_23]; done)))

set_option maxHeartbeats 400000 in
set_option maxRecDepth 100000 in
/-- mayWaive.mayWaive -/
theorem n_X10_mayWaive (l : Launch) (D : va_G) (cy : Nat → ClassId) (A : Nat → Prop) (ad sad : Nat → Nat) (X M : XF) (K : KF) (p1 p2 : Int32) (z : Nat) (hz : X 105 0 = nI z) (hzl : z ≤ 12) (hx : xk_may (nI z) p1 p2 = 0) : Met l yX10_mayWaive (wsA yX10_mayWaive cX10_mayWaive 4 (some .boolean)) ({ frames := 1, cells := 0, slots := 0, locals := 22 }) (PcW D cy A ad sad X M K [.ref (ad 0), .int p1, .int p2]) (QiW D cy A ad (fun r X1 M1 K1 => r = (if rl_may (X 32 p1.toNatClampNeg) p2 = 0 then 1 else 0) ∧ X1 = sa X 32 (upd (X 32) p1.toNatClampNeg (X 32 p1.toNatClampNeg ||| (1 <<< (p2 &&& 31)))) ∧ M1 = M ∧ K1 = K)) 0 0 A := by
  refine met_ofW [(0, .ref (ad 0)), (1, .int p1), (2, .int p2)] (by decide +kernel) (Nat.le_of_ble_eq_true rfl) rfl ?_
  intro G C hl hR hL hD hcy hA had hsa hr hQ
  subst hD hcy hA had hsa hl
  refine g_iload_n C dX10_mayWaive_0 1 rfl ?_
  refine g_aload_n C dX10_mayWaive_1 0 rfl ?_
  refine gf_X10_rules C tw329 dX10_mayWaive_2 ?_
  refine gf_X6_size C tw185 dX10_mayWaive_5 ?_
  refine g_topi hz ?_
  refine g_callSiW C dX10_mayWaive_8 (c_X10_isBelow _ _ _ _ _ _ _ _ _ _ _) tw499 tw500 tw1 tw501 rfl ⟨by decide +kernel, by decide +kernel, rfl⟩ ⟨rfl, rfl⟩ (by rw [hR]; decide) (Nat.le_of_ble_eq_true rfl) (by rw [hR]; decide) (fun r_1 X1 M1 K1 h_2 => ?_)
  obtain ⟨er_1, hX1, hM1, hK1⟩ := h_2
  subst X1 M1 K1
  try simp only [sa_ap, si_ap, reduceIte, Nat.reduceEqDiff] at er_1
  refine g_if_ne C dX10_mayWaive_11 (tgt := 24) (by decide) (fun c_11 => ?_) (fun c_11 => ?_)
  · try simp only [sa_ap, si_ap, reduceIte, Nat.reduceEqDiff, up_us, lg_cmp_lt, lg_cmp_gt, lg_cmp_le, lg_cmp_ge] at c_11
    obtain ⟨j, hj, rfl⟩ := bel_ix (p := p1) (s := nI z) (n := z) rfl (by omega) (by rw [← er_1]; exact c_11)
    have c_clj : (nI j).toNatClampNeg = j := nI_clamp (by omega)
    refine g_iload_n C dX10_mayWaive_24 2 rfl ?_
    refine g_bipush C dX10_mayWaive_25 (v := 6) (by decide) ?_
    refine g_callSiW C dX10_mayWaive_27 (c_X10_isBelow _ _ _ _ _ _ _ _ _ _ _) tw499 tw500 tw1 tw501 rfl ⟨by decide +kernel, by decide +kernel, rfl⟩ ⟨rfl, rfl⟩ (by rw [hR]; decide) (Nat.le_of_ble_eq_true rfl) (by rw [hR]; decide) (fun r_3 X1 M1 K1 h_4 => ?_)
    obtain ⟨er_3, hX1, hM1, hK1⟩ := h_4
    subst X1 M1 K1
    try simp only [sa_ap, si_ap, reduceIte, Nat.reduceEqDiff] at er_3
    refine g_if_ne C dX10_mayWaive_30 (tgt := 43) (by decide) (fun c_30 => ?_) (fun c_30 => ?_)
    · try simp only [sa_ap, si_ap, reduceIte, Nat.reduceEqDiff, up_us, lg_cmp_lt, lg_cmp_gt, lg_cmp_le, lg_cmp_ge] at c_30
      refine g_aload_n C dX10_mayWaive_43 0 rfl ?_
      refine gf_X10_rules C tw329 dX10_mayWaive_44 ?_
      refine g_iload_n C dX10_mayWaive_47 1 rfl ?_
      refine g_iload_n C dX10_mayWaive_48 2 rfl ?_
      refine g_callViW C dX10_mayWaive_49 (c_X6_isWaiver _ _ _ _ _ _ _ _ _ j (by omega) _) tw718 tw719 tw720 tw8 tw721 (rv_X6 C) rfl ⟨by decide +kernel, by decide +kernel, rfl⟩ ⟨rfl, rfl⟩ (by rw [hR]; decide) (Nat.le_of_ble_eq_true rfl) (by rw [hR]; decide) (fun r_5 X1 M1 K1 h_6 => ?_)
      obtain ⟨er_5, hX1, hM1, hK1⟩ := h_6
      subst X1 M1 K1
      try simp only [sa_ap, si_ap, reduceIte, Nat.reduceEqDiff] at er_5
      refine g_istore_n C dX10_mayWaive_52 (L' := [(3, .int r_5), (0, .ref (gad G 0)), (1, .int (nI j)), (2, .int p2)]) rfl (by rw [hL]; decide) ?_
      refine g_aload_n C dX10_mayWaive_53 1 rfl ?_
      refine gf_X10_rules C tw329 dX10_mayWaive_54 ?_
      refine gf_X6_waivers C tw179 dX10_mayWaive_57 ?_
      refine g_iload_n C dX10_mayWaive_60 2 rfl ?_
      refine g_dup2 C dX10_mayWaive_61 rfl rfl ?_
      refine al_32 C (by omega) dX10_mayWaive_62 ?_
      refine g_iconst C dX10_mayWaive_63 (v := 1) (by decide) ?_
      refine g_iload_n C dX10_mayWaive_64 3 rfl ?_
      refine g_ishl C dX10_mayWaive_65 ?_
      refine g_ior C dX10_mayWaive_66 ?_
      refine as_32 C (by omega) dX10_mayWaive_67 ?_
      refine g_iload_n C dX10_mayWaive_68 0 rfl ?_
      refine g_if_ne C dX10_mayWaive_69 (tgt := 76) (by decide) (fun c_69 => ?_) (fun c_69 => ?_)
      · try simp only [sa_ap, si_ap, reduceIte, Nat.reduceEqDiff, up_us, lg_cmp_lt, lg_cmp_gt, lg_cmp_le, lg_cmp_ge] at c_69
        refine g_iconst C dX10_mayWaive_76 (v := 0) (by decide) ?_
        refine g_zretW C hr (by decide) hQ (Nat.le_refl _) (Nat.le_refl _) dX10_mayWaive_77 ?_
        exact ⟨(by first | with_reducible rfl | (subst er_1 er_3 er_5; first | with_reducible rfl | (simp only [sa_ap, si_ap, si_sa, sa_sa, sa_3, sa_4, sa_5, sa_6, sa_7, sa_8, xk_may, up_us, up_up, c_11, c_clj, c_30, c_69]; done) | (simp [sa_ap, si_ap, si_sa, sa_sa, sa_3, sa_4, sa_5, sa_6, sa_7, sa_8, xk_may, up_us, up_up, c_11, c_clj, c_30, c_69]; done))), (by first | with_reducible rfl | (subst er_1 er_3 er_5; first | with_reducible rfl | (simp only [sa_ap, si_ap, si_sa, sa_sa, sa_3, sa_4, sa_5, sa_6, sa_7, sa_8, xk_may, up_us, up_up, c_11, c_clj, c_30, c_69]; done) | (simp [sa_ap, si_ap, si_sa, sa_sa, sa_3, sa_4, sa_5, sa_6, sa_7, sa_8, xk_may, up_us, up_up, c_11, c_clj, c_30, c_69]; done))), rfl, rfl⟩
      · try simp only [sa_ap, si_ap, reduceIte, Nat.reduceEqDiff, up_us, lg_cmp_lt, lg_cmp_gt, lg_cmp_le, lg_cmp_ge] at c_69
        refine g_iconst C dX10_mayWaive_72 (v := 1) (by decide) ?_
        refine g_goto C dX10_mayWaive_73 (tgt := 77) (by decide) ?_
        refine g_zretW C hr (by decide) hQ (Nat.le_refl _) (Nat.le_refl _) dX10_mayWaive_77 ?_
        exact ⟨(by first | with_reducible rfl | (subst er_1 er_3 er_5; first | with_reducible rfl | (simp only [sa_ap, si_ap, si_sa, sa_sa, sa_3, sa_4, sa_5, sa_6, sa_7, sa_8, xk_may, up_us, up_up, c_11, c_clj, c_30, c_69]; done) | (simp [sa_ap, si_ap, si_sa, sa_sa, sa_3, sa_4, sa_5, sa_6, sa_7, sa_8, xk_may, up_us, up_up, c_11, c_clj, c_30, c_69]; done))), (by first | with_reducible rfl | (subst er_1 er_3 er_5; first | with_reducible rfl | (simp only [sa_ap, si_ap, si_sa, sa_sa, sa_3, sa_4, sa_5, sa_6, sa_7, sa_8, xk_may, up_us, up_up, c_11, c_clj, c_30, c_69]; done) | (simp [sa_ap, si_ap, si_sa, sa_sa, sa_3, sa_4, sa_5, sa_6, sa_7, sa_8, xk_may, up_us, up_up, c_11, c_clj, c_30, c_69]; done))), rfl, rfl⟩
    · try simp only [sa_ap, si_ap, reduceIte, Nat.reduceEqDiff, up_us, lg_cmp_lt, lg_cmp_gt, lg_cmp_le, lg_cmp_ge] at c_30
      exact absurd hx (by first | with_reducible rfl | (subst er_1 er_3; first | with_reducible rfl | (simp only [sa_ap, si_ap, si_sa, sa_sa, sa_3, sa_4, sa_5, sa_6, sa_7, sa_8, xk_may, up_us, up_up, c_11, c_clj, c_30]; done) | (simp [sa_ap, si_ap, si_sa, sa_sa, sa_3, sa_4, sa_5, sa_6, sa_7, sa_8, xk_may, up_us, up_up, c_11, c_clj, c_30]; done)))
  · try simp only [sa_ap, si_ap, reduceIte, Nat.reduceEqDiff, up_us, lg_cmp_lt, lg_cmp_gt, lg_cmp_le, lg_cmp_ge] at c_11
    exact absurd hx (by first | with_reducible rfl | (subst er_1; first | with_reducible rfl | (simp only [sa_ap, si_ap, si_sa, sa_sa, sa_3, sa_4, sa_5, sa_6, sa_7, sa_8, xk_may, up_us, up_up, c_11]; done) | (simp [sa_ap, si_ap, si_sa, sa_sa, sa_3, sa_4, sa_5, sa_6, sa_7, sa_8, xk_may, up_us, up_up, c_11]; done)))

set_option maxHeartbeats 400000 in
set_option maxRecDepth 100000 in
/-- waive.waive -/
theorem n_X10_waive (l : Launch) (D : va_G) (cy : Nat → ClassId) (A : Nat → Prop) (ad sad : Nat → Nat) (X M : XF) (K : KF) (p1 p2 p3 : Int32) (z : Nat) (hz : X 105 0 = nI z) (hzl : z ≤ 12) (hx : xk_waive (X 32) (nI z) p1 p2 p3 = 0) : Met l yX10_waive (wsA yX10_waive cX10_waive 5 (some .boolean)) ({ frames := 2, cells := 0, slots := 0, locals := 43 }) (PcW D cy A ad sad X M K [.ref (ad 0), .int p1, .int p2, .int p3]) (QiW D cy A ad (fun r X1 M1 K1 => r = cl_iw X p1.toNatClampNeg ∧ X1 = sa (sa X 33 (upd (X 33) p1.toNatClampNeg p2)) 34 (upd (X 34) p1.toNatClampNeg p3) ∧ M1 = M ∧ K1 = K)) 0 0 A := by
  refine met_ofW [(0, .ref (ad 0)), (1, .int p1), (2, .int p2), (3, .int p3)] (by decide +kernel) (Nat.le_of_ble_eq_true rfl) rfl ?_
  intro G C hl hR hL hD hcy hA had hsa hr hQ
  subst hD hcy hA had hsa hl
  refine g_iload_n C dX10_waive_0 1 rfl ?_
  refine g_aload_n C dX10_waive_1 0 rfl ?_
  refine gf_X10_rules C tw329 dX10_waive_2 ?_
  refine gf_X6_size C tw185 dX10_waive_5 ?_
  refine g_topi hz ?_
  refine g_callSiW C dX10_waive_8 (c_X10_isBelow _ _ _ _ _ _ _ _ _ _ _) tw499 tw500 tw1 tw501 rfl ⟨by decide +kernel, by decide +kernel, rfl⟩ ⟨rfl, rfl⟩ (by rw [hR]; decide) (Nat.le_of_ble_eq_true rfl) (by rw [hR]; decide) (fun r_1 X1 M1 K1 h_2 => ?_)
  obtain ⟨er_1, hX1, hM1, hK1⟩ := h_2
  subst X1 M1 K1
  try simp only [sa_ap, si_ap, reduceIte, Nat.reduceEqDiff] at er_1
  refine g_if_ne C dX10_waive_11 (tgt := 24) (by decide) (fun c_11 => ?_) (fun c_11 => ?_)
  · try simp only [sa_ap, si_ap, reduceIte, Nat.reduceEqDiff, up_us, lg_cmp_lt, lg_cmp_gt, lg_cmp_le, lg_cmp_ge] at c_11
    obtain ⟨j, hj, rfl⟩ := bel_ix (p := p1) (s := nI z) (n := z) rfl (by omega) (by rw [← er_1]; exact c_11)
    have c_clj : (nI j).toNatClampNeg = j := nI_clamp (by omega)
    refine g_iload_n C dX10_waive_24 2 rfl ?_
    refine g_bipush C dX10_waive_25 (v := 6) (by decide) ?_
    refine g_callSiW C dX10_waive_27 (c_X10_isBelow _ _ _ _ _ _ _ _ _ _ _) tw499 tw500 tw1 tw501 rfl ⟨by decide +kernel, by decide +kernel, rfl⟩ ⟨rfl, rfl⟩ (by rw [hR]; decide) (Nat.le_of_ble_eq_true rfl) (by rw [hR]; decide) (fun r_3 X1 M1 K1 h_4 => ?_)
    obtain ⟨er_3, hX1, hM1, hK1⟩ := h_4
    subst X1 M1 K1
    try simp only [sa_ap, si_ap, reduceIte, Nat.reduceEqDiff] at er_3
    refine g_if_eq C dX10_waive_30 (tgt := 44) (by decide) (fun c_30 => ?_) (fun c_30 => ?_)
    · try simp only [sa_ap, si_ap, reduceIte, Nat.reduceEqDiff, up_us, lg_cmp_lt, lg_cmp_gt, lg_cmp_le, lg_cmp_ge] at c_30
      exact absurd hx (by first | with_reducible rfl | (subst er_1 er_3; first | with_reducible rfl | (simp only [sa_ap, si_ap, si_sa, sa_sa, sa_3, sa_4, sa_5, sa_6, sa_7, sa_8, xk_waive, up_us, up_up, c_11, c_clj, c_30]; done) | (simp [sa_ap, si_ap, si_sa, sa_sa, sa_3, sa_4, sa_5, sa_6, sa_7, sa_8, xk_waive, up_us, up_up, c_11, c_clj, c_30]; done)))
    · try simp only [sa_ap, si_ap, reduceIte, Nat.reduceEqDiff, up_us, lg_cmp_lt, lg_cmp_gt, lg_cmp_le, lg_cmp_ge] at c_30
      refine g_iload_n C dX10_waive_33 3 rfl ?_
      refine g_sipush C dX10_waive_34 (v := (-600)) (by decide) ?_
      refine g_iconst C dX10_waive_37 (v := 0) (by decide) ?_
      refine g_callSiW C dX10_waive_38 (c_X10_isWithin _ _ _ _ _ _ _ _ _ _ _ _) tw503 tw504 tw1 tw505 rfl ⟨by decide +kernel, by decide +kernel, rfl⟩ ⟨rfl, rfl⟩ (by rw [hR]; decide) (Nat.le_of_ble_eq_true rfl) (by rw [hR]; decide) (fun r_5 X1 M1 K1 h_6 => ?_)
      obtain ⟨er_5, hX1, hM1, hK1⟩ := h_6
      subst X1 M1 K1
      try simp only [sa_ap, si_ap, reduceIte, Nat.reduceEqDiff] at er_5
      refine g_if_ne C dX10_waive_41 (tgt := 54) (by decide) (fun c_41 => ?_) (fun c_41 => ?_)
      · try simp only [sa_ap, si_ap, reduceIte, Nat.reduceEqDiff, up_us, lg_cmp_lt, lg_cmp_gt, lg_cmp_le, lg_cmp_ge] at c_41
        refine g_aload_n C dX10_waive_54 0 rfl ?_
        refine gf_X10_rules C tw329 dX10_waive_55 ?_
        refine g_iload_n C dX10_waive_58 1 rfl ?_
        refine g_iload_n C dX10_waive_59 2 rfl ?_
        refine g_callViW C dX10_waive_60 (c_X6_isWaiver _ _ _ _ _ _ _ _ _ j (by omega) _) tw718 tw719 tw720 tw8 tw721 (rv_X6 C) rfl ⟨by decide +kernel, by decide +kernel, rfl⟩ ⟨rfl, rfl⟩ (by rw [hR]; decide) (Nat.le_of_ble_eq_true rfl) (by rw [hR]; decide) (fun r_7 X1 M1 K1 h_8 => ?_)
        obtain ⟨er_7, hX1, hM1, hK1⟩ := h_8
        subst X1 M1 K1
        try simp only [sa_ap, si_ap, reduceIte, Nat.reduceEqDiff] at er_7
        refine g_if_ne C dX10_waive_63 (tgt := 76) (by decide) (fun c_63 => ?_) (fun c_63 => ?_)
        · try simp only [sa_ap, si_ap, reduceIte, Nat.reduceEqDiff, up_us, lg_cmp_lt, lg_cmp_gt, lg_cmp_le, lg_cmp_ge] at c_63
          refine g_aload_n C dX10_waive_76 0 rfl ?_
          refine g_iload_n C dX10_waive_77 1 rfl ?_
          refine g_callViW C dX10_waive_78 (c_X10_isWaived _ _ _ _ _ _ _ _ _ j (by omega)) tw728 tw730 tp6 tw1 tw731 (rv_X10 C) rfl ⟨by decide +kernel, by decide +kernel, rfl⟩ ⟨rfl, rfl⟩ (by rw [hR]; decide) (Nat.le_of_ble_eq_true rfl) (by rw [hR]; decide) (fun r_9 X1 M1 K1 h_10 => ?_)
          obtain ⟨er_9, hX1, hM1, hK1⟩ := h_10
          subst X1 M1 K1
          try simp only [sa_ap, si_ap, reduceIte, Nat.reduceEqDiff] at er_9
          refine g_istore C dX10_waive_81 (L' := [(4, .int r_9), (0, .ref (gad G 0)), (1, .int (nI j)), (2, .int p2), (3, .int p3)]) rfl (by rw [hL]; decide) ?_
          refine g_aload_n C dX10_waive_83 1 rfl ?_
          refine gf_X10_rules C tw329 dX10_waive_84 ?_
          refine gf_X6_waivedBy C tw181 dX10_waive_87 ?_
          refine g_iload_n C dX10_waive_90 2 rfl ?_
          refine g_iload_n C dX10_waive_91 3 rfl ?_
          refine as_33 C (by omega) dX10_waive_92 ?_
          refine g_aload_n C dX10_waive_93 1 rfl ?_
          refine gf_X10_rules C tw329 dX10_waive_94 ?_
          refine gf_X6_waivedUntil C tw183 dX10_waive_97 ?_
          refine g_iload_n C dX10_waive_100 2 rfl ?_
          refine g_iload_n C dX10_waive_101 4 rfl ?_
          refine as_34 C (by omega) dX10_waive_102 ?_
          refine g_iload C dX10_waive_103 0 rfl ?_
          refine g_zretW C hr (by subst er_9; exact (isBo.na (cl_iw_bo _ _)).1) hQ (Nat.le_refl _) (Nat.le_refl _) dX10_waive_105 ?_
          exact ⟨(by first | with_reducible rfl | (subst er_1 er_3 er_5 er_7 er_9; first | with_reducible rfl | (simp only [sa_ap, si_ap, si_sa, sa_sa, sa_3, sa_4, sa_5, sa_6, sa_7, sa_8, xk_waive, up_us, up_up, c_11, c_clj, c_30, c_41, c_63]; done) | (simp [sa_ap, si_ap, si_sa, sa_sa, sa_3, sa_4, sa_5, sa_6, sa_7, sa_8, xk_waive, up_us, up_up, c_11, c_clj, c_30, c_41, c_63]; done))), (by first | with_reducible rfl | (subst er_1 er_3 er_5 er_7 er_9; first | with_reducible rfl | (simp only [sa_ap, si_ap, si_sa, sa_sa, sa_3, sa_4, sa_5, sa_6, sa_7, sa_8, xk_waive, up_us, up_up, c_11, c_clj, c_30, c_41, c_63]; done) | (simp [sa_ap, si_ap, si_sa, sa_sa, sa_3, sa_4, sa_5, sa_6, sa_7, sa_8, xk_waive, up_us, up_up, c_11, c_clj, c_30, c_41, c_63]; done))), rfl, rfl⟩
        · try simp only [sa_ap, si_ap, reduceIte, Nat.reduceEqDiff, up_us, lg_cmp_lt, lg_cmp_gt, lg_cmp_le, lg_cmp_ge] at c_63
          exact absurd hx (by first | with_reducible rfl | (subst er_1 er_3 er_5 er_7; first | with_reducible rfl | (simp only [sa_ap, si_ap, si_sa, sa_sa, sa_3, sa_4, sa_5, sa_6, sa_7, sa_8, xk_waive, up_us, up_up, c_11, c_clj, c_30, c_41, c_63]; done) | (simp [sa_ap, si_ap, si_sa, sa_sa, sa_3, sa_4, sa_5, sa_6, sa_7, sa_8, xk_waive, up_us, up_up, c_11, c_clj, c_30, c_41, c_63]; done)))
      · try simp only [sa_ap, si_ap, reduceIte, Nat.reduceEqDiff, up_us, lg_cmp_lt, lg_cmp_gt, lg_cmp_le, lg_cmp_ge] at c_41
        exact absurd hx (by first | with_reducible rfl | (subst er_1 er_3 er_5; first | with_reducible rfl | (simp only [sa_ap, si_ap, si_sa, sa_sa, sa_3, sa_4, sa_5, sa_6, sa_7, sa_8, xk_waive, up_us, up_up, c_11, c_clj, c_30, c_41]; done) | (simp [sa_ap, si_ap, si_sa, sa_sa, sa_3, sa_4, sa_5, sa_6, sa_7, sa_8, xk_waive, up_us, up_up, c_11, c_clj, c_30, c_41]; done)))
  · try simp only [sa_ap, si_ap, reduceIte, Nat.reduceEqDiff, up_us, lg_cmp_lt, lg_cmp_gt, lg_cmp_le, lg_cmp_ge] at c_11
    exact absurd hx (by first | with_reducible rfl | (subst er_1; first | with_reducible rfl | (simp only [sa_ap, si_ap, si_sa, sa_sa, sa_3, sa_4, sa_5, sa_6, sa_7, sa_8, xk_waive, up_us, up_up, c_11]; done) | (simp [sa_ap, si_ap, si_sa, sa_sa, sa_3, sa_4, sa_5, sa_6, sa_7, sa_8, xk_waive, up_us, up_up, c_11]; done)))

set_option maxHeartbeats 400000 in
set_option maxRecDepth 100000 in
/-- go.go -/
theorem n_X10_go (l : Launch) (D : va_G) (cy : Nat → ClassId) (A : Nat → Prop) (ad sad : Nat → Nat) (X M : XF) (K : KF) (p1 p2 : Int32) (h2 : isBo p2) (hb : ∀ i : Nat, isBo (X 41 i)) (hx : xk_b p1 6 = 0) : Met l yX10_go (wsA yX10_go cX10_go 4 (some .boolean)) ({ frames := 1, cells := 0, slots := 0, locals := 21 }) (PcW D cy A ad sad X M K [.ref (ad 0), .int p1, .int p2]) (QiW D cy A ad (fun r X1 M1 K1 => r = X 41 p1.toNatClampNeg ∧ X1 = sa X 41 (upd (X 41) p1.toNatClampNeg p2) ∧ M1 = M ∧ K1 = K)) 0 0 A := by
  refine met_ofW [(0, .ref (ad 0)), (1, .int p1), (2, .int p2)] (by decide +kernel) (Nat.le_of_ble_eq_true rfl) rfl ?_
  intro G C hl hR hL hD hcy hA had hsa hr hQ
  subst hD hcy hA had hsa hl
  refine g_iload_n C dX10_go_0 1 rfl ?_
  refine g_bipush C dX10_go_1 (v := 6) (by decide) ?_
  refine g_callSiW C dX10_go_3 (c_X10_isBelow _ _ _ _ _ _ _ _ _ _ _) tw499 tw500 tw1 tw501 rfl ⟨by decide +kernel, by decide +kernel, rfl⟩ ⟨rfl, rfl⟩ (by rw [hR]; decide) (Nat.le_of_ble_eq_true rfl) (by rw [hR]; decide) (fun r_1 X1 M1 K1 h_2 => ?_)
  obtain ⟨er_1, hX1, hM1, hK1⟩ := h_2
  subst X1 M1 K1
  try simp only [sa_ap, si_ap, reduceIte, Nat.reduceEqDiff] at er_1
  refine g_if_ne C dX10_go_6 (tgt := 19) (by decide) (fun c_6 => ?_) (fun c_6 => ?_)
  · try simp only [sa_ap, si_ap, reduceIte, Nat.reduceEqDiff, up_us, lg_cmp_lt, lg_cmp_gt, lg_cmp_le, lg_cmp_ge] at c_6
    obtain ⟨j, hj, rfl⟩ := bel_ix (p := p1) (s := 6) (n := 6) rfl (by omega) (by rw [← er_1]; exact c_6)
    have c_clj : (nI j).toNatClampNeg = j := nI_clamp (by omega)
    refine g_aload_n C dX10_go_19 0 rfl ?_
    refine gf_X10_saysGo C tw333 dX10_go_20 ?_
    refine g_iload_n C dX10_go_23 1 rfl ?_
    refine al_41 C (by omega) dX10_go_24 ?_
    refine g_topi rfl ?_
    refine g_istore_n C dX10_go_25 (L' := [(3, .int (X 41 j)), (0, .ref (gad G 0)), (1, .int (nI j)), (2, .int p2)]) rfl (by rw [hL]; decide) ?_
    refine g_aload_n C dX10_go_26 1 rfl ?_
    refine gf_X10_saysGo C tw333 dX10_go_27 ?_
    refine g_iload_n C dX10_go_30 2 rfl ?_
    refine g_iload_n C dX10_go_31 3 rfl ?_
    refine as_41 C (by first | exact isBo_0 | exact isBo_1 | assumption) (by omega) dX10_go_32 ?_
    refine g_iload_n C dX10_go_33 0 rfl ?_
    refine g_zretW C hr (isBo.na (hb _)).1 hQ (Nat.le_refl _) (Nat.le_refl _) dX10_go_34 ?_
    exact ⟨(by first | with_reducible rfl | (subst er_1; first | with_reducible rfl | (simp only [sa_ap, si_ap, si_sa, sa_sa, sa_3, sa_4, sa_5, sa_6, sa_7, sa_8, xk_b, up_us, up_up, c_6, c_clj]; done) | (simp [sa_ap, si_ap, si_sa, sa_sa, sa_3, sa_4, sa_5, sa_6, sa_7, sa_8, xk_b, up_us, up_up, c_6, c_clj]; done))), (by first | with_reducible rfl | (subst er_1; first | with_reducible rfl | (simp only [sa_ap, si_ap, si_sa, sa_sa, sa_3, sa_4, sa_5, sa_6, sa_7, sa_8, xk_b, up_us, up_up, c_6, c_clj]; done) | (simp [sa_ap, si_ap, si_sa, sa_sa, sa_3, sa_4, sa_5, sa_6, sa_7, sa_8, xk_b, up_us, up_up, c_6, c_clj]; done))), rfl, rfl⟩
  · try simp only [sa_ap, si_ap, reduceIte, Nat.reduceEqDiff, up_us, lg_cmp_lt, lg_cmp_gt, lg_cmp_le, lg_cmp_ge] at c_6
    exact absurd hx (by first | with_reducible rfl | (subst er_1; first | with_reducible rfl | (simp only [sa_ap, si_ap, si_sa, sa_sa, sa_3, sa_4, sa_5, sa_6, sa_7, sa_8, xk_b, up_us, up_up, c_6]; done) | (simp [sa_ap, si_ap, si_sa, sa_sa, sa_3, sa_4, sa_5, sa_6, sa_7, sa_8, xk_b, up_us, up_up, c_6]; done)))

set_option maxHeartbeats 400000 in
set_option maxRecDepth 100000 in
/-- value.value -/
theorem n_X10_value (l : Launch) (D : va_G) (cy : Nat → ClassId) (A : Nat → Prop) (ad sad : Nat → Nat) (X M : XF) (K : KF) (p1 : Int32) (z : Nat) (hz : X 105 0 = nI z) (hzl : z ≤ 12) (ho : ∀ j : Nat, j < z → okAb (X 25 j) (X 26 j)) (hx : xk_b p1 (nI z) = 0) : Met l yX10_value (wsA yX10_value cX10_value 2 (some .int)) ({ frames := 3, cells := 0, slots := 0, locals := 72 }) (PcW D cy A ad sad X M K [.ref (ad 0), .int p1]) (QiW D cy A ad (fun r X1 M1 K1 => r = cl_val X p1.toNatClampNeg ∧ X1 = X ∧ M1 = M ∧ K1 = K)) 0 0 A := by
  refine met_ofW [(0, .ref (ad 0)), (1, .int p1)] (by decide +kernel) (Nat.le_of_ble_eq_true rfl) rfl ?_
  intro G C hl hR hL hD hcy hA had hsa hr hQ
  subst hD hcy hA had hsa hl
  refine g_iload_n C dX10_value_0 1 rfl ?_
  refine g_aload_n C dX10_value_1 0 rfl ?_
  refine gf_X10_rules C tw329 dX10_value_2 ?_
  refine gf_X6_size C tw185 dX10_value_5 ?_
  refine g_topi hz ?_
  refine g_callSiW C dX10_value_8 (c_X10_isBelow _ _ _ _ _ _ _ _ _ _ _) tw499 tw500 tw1 tw501 rfl ⟨by decide +kernel, by decide +kernel, rfl⟩ ⟨rfl, rfl⟩ (by rw [hR]; decide) (Nat.le_of_ble_eq_true rfl) (by rw [hR]; decide) (fun r_1 X1 M1 K1 h_2 => ?_)
  obtain ⟨er_1, hX1, hM1, hK1⟩ := h_2
  subst X1 M1 K1
  try simp only [sa_ap, si_ap, reduceIte, Nat.reduceEqDiff] at er_1
  refine g_if_ne C dX10_value_11 (tgt := 24) (by decide) (fun c_11 => ?_) (fun c_11 => ?_)
  · try simp only [sa_ap, si_ap, reduceIte, Nat.reduceEqDiff, up_us, lg_cmp_lt, lg_cmp_gt, lg_cmp_le, lg_cmp_ge] at c_11
    obtain ⟨j, hj, rfl⟩ := bel_ix (p := p1) (s := nI z) (n := z) rfl (by omega) (by rw [← er_1]; exact c_11)
    have c_clj : (nI j).toNatClampNeg = j := nI_clamp (by omega)
    refine g_aload_n C dX10_value_24 0 rfl ?_
    refine g_iload_n C dX10_value_25 1 rfl ?_
    refine g_callViW C dX10_value_26 (c_X10_valueFor _ _ _ _ _ _ _ _ _ j (by omega) (ho j hj)) tw922 tw924 tp8 tw1 tw925 (rv_X10 C) rfl ⟨by decide +kernel, by decide +kernel, rfl⟩ ⟨rfl, rfl⟩ (by rw [hR]; decide) (Nat.le_of_ble_eq_true rfl) (by rw [hR]; decide) (fun r_3 X1 M1 K1 h_4 => ?_)
    obtain ⟨er_3, hX1, hM1, hK1⟩ := h_4
    subst X1 M1 K1
    try simp only [sa_ap, si_ap, reduceIte, Nat.reduceEqDiff] at er_3
    refine g_iretW C hr hQ (Nat.le_refl _) (Nat.le_refl _) dX10_value_29 ?_
    exact ⟨(by first | with_reducible rfl | (subst er_1 er_3; first | with_reducible rfl | (simp only [sa_ap, si_ap, si_sa, sa_sa, sa_3, sa_4, sa_5, sa_6, sa_7, sa_8, xk_b, up_us, up_up, c_11, c_clj]; done) | (simp [sa_ap, si_ap, si_sa, sa_sa, sa_3, sa_4, sa_5, sa_6, sa_7, sa_8, xk_b, up_us, up_up, c_11, c_clj]; done))), (by first | with_reducible rfl | (subst er_1 er_3; first | with_reducible rfl | (simp only [sa_ap, si_ap, si_sa, sa_sa, sa_3, sa_4, sa_5, sa_6, sa_7, sa_8, xk_b, up_us, up_up, c_11, c_clj]; done) | (simp [sa_ap, si_ap, si_sa, sa_sa, sa_3, sa_4, sa_5, sa_6, sa_7, sa_8, xk_b, up_us, up_up, c_11, c_clj]; done))), rfl, rfl⟩
  · try simp only [sa_ap, si_ap, reduceIte, Nat.reduceEqDiff, up_us, lg_cmp_lt, lg_cmp_gt, lg_cmp_le, lg_cmp_ge] at c_11
    exact absurd hx (by first | with_reducible rfl | (subst er_1; first | with_reducible rfl | (simp only [sa_ap, si_ap, si_sa, sa_sa, sa_3, sa_4, sa_5, sa_6, sa_7, sa_8, xk_b, up_us, up_up, c_11]; done) | (simp [sa_ap, si_ap, si_sa, sa_sa, sa_3, sa_4, sa_5, sa_6, sa_7, sa_8, xk_b, up_us, up_up, c_11]; done)))

set_option maxHeartbeats 400000 in
set_option maxRecDepth 100000 in
/-- holdsFor.holdsFor -/
theorem n_X10_holdsFor (l : Launch) (D : va_G) (cy : Nat → ClassId) (A : Nat → Prop) (ad sad : Nat → Nat) (X M : XF) (K : KF) (p1 : Int32) (z : Nat) (hz : X 105 0 = nI z) (hzl : z ≤ 12) (hx : xk_b p1 (nI z) = 0) : Met l yX10_holdsFor (wsA yX10_holdsFor cX10_holdsFor 2 (some .int)) ({ frames := 1, cells := 0, slots := 0, locals := 21 }) (PcW D cy A ad sad X M K [.ref (ad 0), .int p1]) (QiW D cy A ad (fun r X1 M1 K1 => r = X 31 p1.toNatClampNeg ∧ X1 = X ∧ M1 = M ∧ K1 = K)) 0 0 A := by
  refine met_ofW [(0, .ref (ad 0)), (1, .int p1)] (by decide +kernel) (Nat.le_of_ble_eq_true rfl) rfl ?_
  intro G C hl hR hL hD hcy hA had hsa hr hQ
  subst hD hcy hA had hsa hl
  refine g_iload_n C dX10_holdsFor_0 1 rfl ?_
  refine g_aload_n C dX10_holdsFor_1 0 rfl ?_
  refine gf_X10_rules C tw329 dX10_holdsFor_2 ?_
  refine gf_X6_size C tw185 dX10_holdsFor_5 ?_
  refine g_topi hz ?_
  refine g_callSiW C dX10_holdsFor_8 (c_X10_isBelow _ _ _ _ _ _ _ _ _ _ _) tw499 tw500 tw1 tw501 rfl ⟨by decide +kernel, by decide +kernel, rfl⟩ ⟨rfl, rfl⟩ (by rw [hR]; decide) (Nat.le_of_ble_eq_true rfl) (by rw [hR]; decide) (fun r_1 X1 M1 K1 h_2 => ?_)
  obtain ⟨er_1, hX1, hM1, hK1⟩ := h_2
  subst X1 M1 K1
  try simp only [sa_ap, si_ap, reduceIte, Nat.reduceEqDiff] at er_1
  refine g_if_ne C dX10_holdsFor_11 (tgt := 24) (by decide) (fun c_11 => ?_) (fun c_11 => ?_)
  · try simp only [sa_ap, si_ap, reduceIte, Nat.reduceEqDiff, up_us, lg_cmp_lt, lg_cmp_gt, lg_cmp_le, lg_cmp_ge] at c_11
    obtain ⟨j, hj, rfl⟩ := bel_ix (p := p1) (s := nI z) (n := z) rfl (by omega) (by rw [← er_1]; exact c_11)
    have c_clj : (nI j).toNatClampNeg = j := nI_clamp (by omega)
    refine g_aload_n C dX10_holdsFor_24 0 rfl ?_
    refine gf_X10_rules C tw329 dX10_holdsFor_25 ?_
    refine gf_X6_heldFor C tw177 dX10_holdsFor_28 ?_
    refine g_iload_n C dX10_holdsFor_31 1 rfl ?_
    refine al_31 C (by omega) dX10_holdsFor_32 ?_
    refine g_iretW C hr hQ (Nat.le_refl _) (Nat.le_refl _) dX10_holdsFor_33 ?_
    exact ⟨(by first | with_reducible rfl | (subst er_1; first | with_reducible rfl | (simp only [sa_ap, si_ap, si_sa, sa_sa, sa_3, sa_4, sa_5, sa_6, sa_7, sa_8, xk_b, up_us, up_up, c_11, c_clj]; done) | (simp [sa_ap, si_ap, si_sa, sa_sa, sa_3, sa_4, sa_5, sa_6, sa_7, sa_8, xk_b, up_us, up_up, c_11, c_clj]; done))), (by first | with_reducible rfl | (subst er_1; first | with_reducible rfl | (simp only [sa_ap, si_ap, si_sa, sa_sa, sa_3, sa_4, sa_5, sa_6, sa_7, sa_8, xk_b, up_us, up_up, c_11, c_clj]; done) | (simp [sa_ap, si_ap, si_sa, sa_sa, sa_3, sa_4, sa_5, sa_6, sa_7, sa_8, xk_b, up_us, up_up, c_11, c_clj]; done))), rfl, rfl⟩
  · try simp only [sa_ap, si_ap, reduceIte, Nat.reduceEqDiff, up_us, lg_cmp_lt, lg_cmp_gt, lg_cmp_le, lg_cmp_ge] at c_11
    exact absurd hx (by first | with_reducible rfl | (subst er_1; first | with_reducible rfl | (simp only [sa_ap, si_ap, si_sa, sa_sa, sa_3, sa_4, sa_5, sa_6, sa_7, sa_8, xk_b, up_us, up_up, c_11]; done) | (simp [sa_ap, si_ap, si_sa, sa_sa, sa_3, sa_4, sa_5, sa_6, sa_7, sa_8, xk_b, up_us, up_up, c_11]; done)))

set_option maxHeartbeats 400000 in
set_option maxRecDepth 100000 in
/-- track.track -/
theorem n_X10_track (l : Launch) (D : va_G) (cy : Nat → ClassId) (A : Nat → Prop) (ad sad : Nat → Nat) (X M : XF) (K : KF) (p1 p2 : Int32) (hx : xk_track p1 p2 = 0) : Met l yX10_track (wsA yX10_track cX10_track 4 (some .int)) ({ frames := 1, cells := 0, slots := 0, locals := 22 }) (PcW D cy A ad sad X M K [.ref (ad 0), .int p1, .int p2]) (QiW D cy A ad (fun r X1 M1 K1 => r = X 37 p1.toNatClampNeg ∧ X1 = sa X 37 (upd (X 37) p1.toNatClampNeg p2) ∧ M1 = M ∧ K1 = K)) 0 0 A := by
  refine met_ofW [(0, .ref (ad 0)), (1, .int p1), (2, .int p2)] (by decide +kernel) (Nat.le_of_ble_eq_true rfl) rfl ?_
  intro G C hl hR hL hD hcy hA had hsa hr hQ
  subst hD hcy hA had hsa hl
  refine g_iload_n C dX10_track_0 1 rfl ?_
  refine g_iconst C dX10_track_1 (v := 2) (by decide) ?_
  refine g_callSiW C dX10_track_2 (c_X10_isBelow _ _ _ _ _ _ _ _ _ _ _) tw499 tw500 tw1 tw501 rfl ⟨by decide +kernel, by decide +kernel, rfl⟩ ⟨rfl, rfl⟩ (by rw [hR]; decide) (Nat.le_of_ble_eq_true rfl) (by rw [hR]; decide) (fun r_1 X1 M1 K1 h_2 => ?_)
  obtain ⟨er_1, hX1, hM1, hK1⟩ := h_2
  subst X1 M1 K1
  try simp only [sa_ap, si_ap, reduceIte, Nat.reduceEqDiff] at er_1
  refine g_if_eq C dX10_track_5 (tgt := 21) (by decide) (fun c_5 => ?_) (fun c_5 => ?_)
  · try simp only [sa_ap, si_ap, reduceIte, Nat.reduceEqDiff, up_us, lg_cmp_lt, lg_cmp_gt, lg_cmp_le, lg_cmp_ge] at c_5
    exact absurd hx (by first | with_reducible rfl | (subst er_1; first | with_reducible rfl | (simp only [sa_ap, si_ap, si_sa, sa_sa, sa_3, sa_4, sa_5, sa_6, sa_7, sa_8, xk_track, up_us, up_up, c_5]; done) | (simp [sa_ap, si_ap, si_sa, sa_sa, sa_3, sa_4, sa_5, sa_6, sa_7, sa_8, xk_track, up_us, up_up, c_5]; done)))
  · try simp only [sa_ap, si_ap, reduceIte, Nat.reduceEqDiff, up_us, lg_cmp_lt, lg_cmp_gt, lg_cmp_le, lg_cmp_ge] at c_5
    obtain ⟨j, hj, rfl⟩ := bel_ix (p := p1) (s := 2) (n := 2) rfl (by omega) (by rw [← er_1]; exact c_5)
    have c_clj : (nI j).toNatClampNeg = j := nI_clamp (by omega)
    refine g_iload_n C dX10_track_8 2 rfl ?_
    refine g_sipush C dX10_track_9 (v := (-999)) (by decide) ?_
    refine g_sipush C dX10_track_12 (v := 999) (by decide) ?_
    refine g_callSiW C dX10_track_15 (c_X10_isWithin _ _ _ _ _ _ _ _ _ _ _ _) tw503 tw504 tw1 tw505 rfl ⟨by decide +kernel, by decide +kernel, rfl⟩ ⟨rfl, rfl⟩ (by rw [hR]; decide) (Nat.le_of_ble_eq_true rfl) (by rw [hR]; decide) (fun r_3 X1 M1 K1 h_4 => ?_)
    obtain ⟨er_3, hX1, hM1, hK1⟩ := h_4
    subst X1 M1 K1
    try simp only [sa_ap, si_ap, reduceIte, Nat.reduceEqDiff] at er_3
    refine g_if_ne C dX10_track_18 (tgt := 31) (by decide) (fun c_18 => ?_) (fun c_18 => ?_)
    · try simp only [sa_ap, si_ap, reduceIte, Nat.reduceEqDiff, up_us, lg_cmp_lt, lg_cmp_gt, lg_cmp_le, lg_cmp_ge] at c_18
      refine g_aload_n C dX10_track_31 0 rfl ?_
      refine gf_X10_flight C tw331 dX10_track_32 ?_
      refine gf_X2_off C tw257 dX10_track_35 ?_
      refine g_iload_n C dX10_track_38 1 rfl ?_
      refine al_37 C (by omega) dX10_track_39 ?_
      refine g_topi rfl ?_
      refine g_istore_n C dX10_track_40 (L' := [(3, .int (X 37 j)), (0, .ref (gad G 0)), (1, .int (nI j)), (2, .int p2)]) rfl (by rw [hL]; decide) ?_
      refine g_aload_n C dX10_track_41 1 rfl ?_
      refine gf_X10_flight C tw331 dX10_track_42 ?_
      refine gf_X2_off C tw257 dX10_track_45 ?_
      refine g_iload_n C dX10_track_48 2 rfl ?_
      refine g_iload_n C dX10_track_49 3 rfl ?_
      refine as_37 C (by omega) dX10_track_50 ?_
      refine g_iload_n C dX10_track_51 0 rfl ?_
      refine g_iretW C hr hQ (Nat.le_refl _) (Nat.le_refl _) dX10_track_52 ?_
      exact ⟨(by first | with_reducible rfl | (subst er_1 er_3; first | with_reducible rfl | (simp only [sa_ap, si_ap, si_sa, sa_sa, sa_3, sa_4, sa_5, sa_6, sa_7, sa_8, xk_track, up_us, up_up, c_5, c_clj, c_18]; done) | (simp [sa_ap, si_ap, si_sa, sa_sa, sa_3, sa_4, sa_5, sa_6, sa_7, sa_8, xk_track, up_us, up_up, c_5, c_clj, c_18]; done))), (by first | with_reducible rfl | (subst er_1 er_3; first | with_reducible rfl | (simp only [sa_ap, si_ap, si_sa, sa_sa, sa_3, sa_4, sa_5, sa_6, sa_7, sa_8, xk_track, up_us, up_up, c_5, c_clj, c_18]; done) | (simp [sa_ap, si_ap, si_sa, sa_sa, sa_3, sa_4, sa_5, sa_6, sa_7, sa_8, xk_track, up_us, up_up, c_5, c_clj, c_18]; done))), rfl, rfl⟩
    · try simp only [sa_ap, si_ap, reduceIte, Nat.reduceEqDiff, up_us, lg_cmp_lt, lg_cmp_gt, lg_cmp_le, lg_cmp_ge] at c_18
      exact absurd hx (by first | with_reducible rfl | (subst er_1 er_3; first | with_reducible rfl | (simp only [sa_ap, si_ap, si_sa, sa_sa, sa_3, sa_4, sa_5, sa_6, sa_7, sa_8, xk_track, up_us, up_up, c_5, c_clj, c_18]; done) | (simp [sa_ap, si_ap, si_sa, sa_sa, sa_3, sa_4, sa_5, sa_6, sa_7, sa_8, xk_track, up_us, up_up, c_5, c_clj, c_18]; done)))

set_option maxHeartbeats 400000 in
set_option maxRecDepth 100000 in
/-- count.count -/
theorem n_X10_count (l : Launch) (D : va_G) (cy : Nat → ClassId) (A : Nat → Prop) (ad sad : Nat → Nat) (X M : XF) (K : KF) (hx : xk_beg (X 118 0) = 0) : Met l yX10_count (wsA yX10_count cX10_count 1 (some .int)) ({ frames := 0, cells := 0, slots := 0, locals := 0 }) (PcW D cy A ad sad X M K [.ref (ad 0)]) (QiW D cy A ad (fun r X1 M1 K1 => r = X 106 0 ∧ X1 = X ∧ M1 = M ∧ K1 = K)) 0 0 A := by
  refine met_ofW [(0, .ref (ad 0))] (by decide +kernel) (Nat.le_of_ble_eq_true rfl) rfl ?_
  intro G C hl hR hL hD hcy hA had hsa hr hQ
  subst hD hcy hA had hsa hl
  refine g_aload_n C dX10_count_0 0 rfl ?_
  refine gf_X10_log C tw332 dX10_count_1 ?_
  refine gf_X4_state C tw314 dX10_count_4 ?_
  refine g_bipush C dX10_count_7 (v := 45) (by decide) ?_
  refine g_icmp_ne C dX10_count_9 (tgt := 23) (by decide) (fun c_9 => ?_) (fun c_9 => ?_)
  · try simp only [sa_ap, si_ap, reduceIte, Nat.reduceEqDiff, up_us, lg_cmp_lt, lg_cmp_gt, lg_cmp_le, lg_cmp_ge] at c_9
    refine g_aload_n C dX10_count_23 0 rfl ?_
    refine gf_X10_countdown C tw330 dX10_count_24 ?_
    refine gf_X1_at C tw216 dX10_count_27 ?_
    refine g_iretW C hr hQ (Nat.le_refl _) (Nat.le_refl _) dX10_count_30 ?_
    exact ⟨(by first | with_reducible rfl | (first | with_reducible rfl | (simp only [sa_ap, si_ap, si_sa, sa_sa, sa_3, sa_4, sa_5, sa_6, sa_7, sa_8, xk_beg, up_us, up_up, c_9]; done) | (simp [sa_ap, si_ap, si_sa, sa_sa, sa_3, sa_4, sa_5, sa_6, sa_7, sa_8, xk_beg, up_us, up_up, c_9]; done))), (by first | with_reducible rfl | (first | with_reducible rfl | (simp only [sa_ap, si_ap, si_sa, sa_sa, sa_3, sa_4, sa_5, sa_6, sa_7, sa_8, xk_beg, up_us, up_up, c_9]; done) | (simp [sa_ap, si_ap, si_sa, sa_sa, sa_3, sa_4, sa_5, sa_6, sa_7, sa_8, xk_beg, up_us, up_up, c_9]; done))), rfl, rfl⟩
  · try simp only [sa_ap, si_ap, reduceIte, Nat.reduceEqDiff, up_us, lg_cmp_lt, lg_cmp_gt, lg_cmp_le, lg_cmp_ge] at c_9
    exact absurd hx (by first | with_reducible rfl | (first | with_reducible rfl | (simp only [sa_ap, si_ap, si_sa, sa_sa, sa_3, sa_4, sa_5, sa_6, sa_7, sa_8, xk_beg, up_us, up_up, c_9]; done) | (simp [sa_ap, si_ap, si_sa, sa_sa, sa_3, sa_4, sa_5, sa_6, sa_7, sa_8, xk_beg, up_us, up_up, c_9]; done)))

set_option maxHeartbeats 400000 in
set_option maxRecDepth 100000 in
/-- holds.holds -/
theorem n_X10_holds (l : Launch) (D : va_G) (cy : Nat → ClassId) (A : Nat → Prop) (ad sad : Nat → Nat) (X M : XF) (K : KF) (hx : xk_beg (X 118 0) = 0) : Met l yX10_holds (wsA yX10_holds cX10_holds 1 (some .int)) ({ frames := 0, cells := 0, slots := 0, locals := 0 }) (PcW D cy A ad sad X M K [.ref (ad 0)]) (QiW D cy A ad (fun r X1 M1 K1 => r = X 109 0 ∧ X1 = X ∧ M1 = M ∧ K1 = K)) 0 0 A := by
  refine met_ofW [(0, .ref (ad 0))] (by decide +kernel) (Nat.le_of_ble_eq_true rfl) rfl ?_
  intro G C hl hR hL hD hcy hA had hsa hr hQ
  subst hD hcy hA had hsa hl
  refine g_aload_n C dX10_holds_0 0 rfl ?_
  refine gf_X10_log C tw332 dX10_holds_1 ?_
  refine gf_X4_state C tw314 dX10_holds_4 ?_
  refine g_bipush C dX10_holds_7 (v := 45) (by decide) ?_
  refine g_icmp_ne C dX10_holds_9 (tgt := 23) (by decide) (fun c_9 => ?_) (fun c_9 => ?_)
  · try simp only [sa_ap, si_ap, reduceIte, Nat.reduceEqDiff, up_us, lg_cmp_lt, lg_cmp_gt, lg_cmp_le, lg_cmp_ge] at c_9
    refine g_aload_n C dX10_holds_23 0 rfl ?_
    refine gf_X10_countdown C tw330 dX10_holds_24 ?_
    refine gf_X1_secondsHeld C tw222 dX10_holds_27 ?_
    refine g_iretW C hr hQ (Nat.le_refl _) (Nat.le_refl _) dX10_holds_30 ?_
    exact ⟨(by first | with_reducible rfl | (first | with_reducible rfl | (simp only [sa_ap, si_ap, si_sa, sa_sa, sa_3, sa_4, sa_5, sa_6, sa_7, sa_8, xk_beg, up_us, up_up, c_9]; done) | (simp [sa_ap, si_ap, si_sa, sa_sa, sa_3, sa_4, sa_5, sa_6, sa_7, sa_8, xk_beg, up_us, up_up, c_9]; done))), (by first | with_reducible rfl | (first | with_reducible rfl | (simp only [sa_ap, si_ap, si_sa, sa_sa, sa_3, sa_4, sa_5, sa_6, sa_7, sa_8, xk_beg, up_us, up_up, c_9]; done) | (simp [sa_ap, si_ap, si_sa, sa_sa, sa_3, sa_4, sa_5, sa_6, sa_7, sa_8, xk_beg, up_us, up_up, c_9]; done))), rfl, rfl⟩
  · try simp only [sa_ap, si_ap, reduceIte, Nat.reduceEqDiff, up_us, lg_cmp_lt, lg_cmp_gt, lg_cmp_le, lg_cmp_ge] at c_9
    exact absurd hx (by first | with_reducible rfl | (first | with_reducible rfl | (simp only [sa_ap, si_ap, si_sa, sa_sa, sa_3, sa_4, sa_5, sa_6, sa_7, sa_8, xk_beg, up_us, up_up, c_9]; done) | (simp [sa_ap, si_ap, si_sa, sa_sa, sa_3, sa_4, sa_5, sa_6, sa_7, sa_8, xk_beg, up_us, up_up, c_9]; done)))

set_option maxHeartbeats 400000 in
set_option maxRecDepth 100000 in
/-- cause.cause -/
theorem n_X10_cause (l : Launch) (D : va_G) (cy : Nat → ClassId) (A : Nat → Prop) (ad sad : Nat → Nat) (X M : XF) (K : KF) (hc : isCh (X 111 0)) (hx : xk_cau (X 118 0) = 0) : Met l yX10_cause (wsA yX10_cause cX10_cause 1 (some .char)) ({ frames := 1, cells := 0, slots := 0, locals := 20 }) (PcW D cy A ad sad X M K [.ref (ad 0)]) (QiW D cy A ad (fun r X1 M1 K1 => r = X 111 0 ∧ X1 = X ∧ M1 = M ∧ K1 = K)) 0 0 A := by
  refine met_ofW [(0, .ref (ad 0))] (by decide +kernel) (Nat.le_of_ble_eq_true rfl) rfl ?_
  intro G C hl hR hL hD hcy hA had hsa hr hQ
  subst hD hcy hA had hsa hl
  refine g_aload_n C dX10_cause_0 0 rfl ?_
  refine g_callViW C dX10_cause_1 (c_X10_isThereCause _ _ _ _ _ _ _ _ _ ) tw1063 tw1065 tp15 tw1 tw1066 (rv_X10 C) rfl ⟨by decide +kernel, by decide +kernel, rfl⟩ ⟨rfl, rfl⟩ (by rw [hR]; decide) (Nat.le_of_ble_eq_true rfl) (by rw [hR]; decide) (fun r_1 X1 M1 K1 h_2 => ?_)
  obtain ⟨er_1, hX1, hM1, hK1⟩ := h_2
  subst X1 M1 K1
  try simp only [sa_ap, si_ap, reduceIte, Nat.reduceEqDiff] at er_1
  refine g_if_ne C dX10_cause_4 (tgt := 18) (by decide) (fun c_4 => ?_) (fun c_4 => ?_)
  · try simp only [sa_ap, si_ap, reduceIte, Nat.reduceEqDiff, up_us, lg_cmp_lt, lg_cmp_gt, lg_cmp_le, lg_cmp_ge] at c_4
    refine g_aload_n C dX10_cause_18 0 rfl ?_
    refine gf_X10_countdown C tw330 dX10_cause_19 ?_
    refine gf_X1_cause C tw226 dX10_cause_22 ?_
    refine g_zretW C hr hc.1 hQ (Nat.le_refl _) (Nat.le_refl _) dX10_cause_25 ?_
    exact ⟨(by first | with_reducible rfl | (subst er_1; first | with_reducible rfl | (simp only [sa_ap, si_ap, si_sa, sa_sa, sa_3, sa_4, sa_5, sa_6, sa_7, sa_8, xk_cau, up_us, up_up, c_4]; done) | (simp [sa_ap, si_ap, si_sa, sa_sa, sa_3, sa_4, sa_5, sa_6, sa_7, sa_8, xk_cau, up_us, up_up, c_4]; done))), (by first | with_reducible rfl | (subst er_1; first | with_reducible rfl | (simp only [sa_ap, si_ap, si_sa, sa_sa, sa_3, sa_4, sa_5, sa_6, sa_7, sa_8, xk_cau, up_us, up_up, c_4]; done) | (simp [sa_ap, si_ap, si_sa, sa_sa, sa_3, sa_4, sa_5, sa_6, sa_7, sa_8, xk_cau, up_us, up_up, c_4]; done))), rfl, rfl⟩
  · try simp only [sa_ap, si_ap, reduceIte, Nat.reduceEqDiff, up_us, lg_cmp_lt, lg_cmp_gt, lg_cmp_le, lg_cmp_ge] at c_4
    exact absurd hx (by first | with_reducible rfl | (subst er_1; first | with_reducible rfl | (simp only [sa_ap, si_ap, si_sa, sa_sa, sa_3, sa_4, sa_5, sa_6, sa_7, sa_8, xk_cau, up_us, up_up, c_4]; done) | (simp [sa_ap, si_ap, si_sa, sa_sa, sa_3, sa_4, sa_5, sa_6, sa_7, sa_8, xk_cau, up_us, up_up, c_4]; done)))

set_option maxHeartbeats 400000 in
set_option maxRecDepth 100000 in
/-- pass.pass -/
theorem n_X10_pass (l : Launch) (D : va_G) (cy : Nat → ClassId) (A : Nat → Prop) (ad sad : Nat → Nat) (X M : XF) (K : KF) (p1 : Int32) (v z z5 z8 : Nat) (hs : okS v z z5 z8 X) (hzl : z ≤ 12) (h5 : z5 ≤ 6) (h8 : z8 ≤ 16) (hv : v ≤ 100000) (h16 : 16 ≤ K.2.1 0) (hx : xk_pass (X 101 0) p1 = 0) (hcap : (ps_K z z5 z8 v X K p1.toNatClampNeg).2.1 0 < 2 ^ 26) : Met l yX10_pass (wsA yX10_pass cX10_pass 3 (some .int)) ({ frames := 10, cells := (ps_K z z5 z8 v X K p1.toNatClampNeg).2.1 4 - K.2.1 4, slots := (ps_K z z5 z8 v X K p1.toNatClampNeg).2.1 6 - K.2.1 6, locals := 277 }) (PcW D cy A ad sad X M K [.ref (ad 0), .int p1]) (QiW D cy A ad (fun r X1 M1 K1 => r = nI (v + p1.toNatClampNeg) ∧ X1 = ps_X z z5 z8 v X p1.toNatClampNeg ∧ M1 = M ∧ K1 = (ps_K z z5 z8 v X K p1.toNatClampNeg))) ((ps_K z z5 z8 v X K p1.toNatClampNeg).2.1 4 - K.2.1 4) ((ps_K z z5 z8 v X K p1.toNatClampNeg).2.1 6 - K.2.1 6) A := by
  refine met_ofW [(0, .ref (ad 0)), (1, .int p1)] (by decide +kernel) (Nat.le_of_ble_eq_true rfl) rfl ?_
  intro G C hl hR hL hD hcy hA had hsa hr hQ
  subst hD hcy hA had hsa hl
  have hrc : (gR G).cells = (ps_K z z5 z8 v X K p1.toNatClampNeg).2.1 4 - K.2.1 4 := by rw [hR]
  have hrs : (gR G).slots = (ps_K z z5 z8 v X K p1.toNatClampNeg).2.1 6 - K.2.1 6 := by rw [hR]
  obtain ⟨hv0, hz8, hz5, hz6, h113, hk25, ho⟩ := id hs
  refine g_iload_n C dX10_pass_0 1 rfl ?_
  refine g_iconst C dX10_pass_1 (v := 1) (by decide) ?_
  refine g_sipush C dX10_pass_2 (v := 600) (by decide) ?_
  refine g_callSiW C dX10_pass_5 (c_X10_isWithin _ _ _ _ _ _ _ _ _ _ _ _) tw503 tw504 tw1 tw505 rfl ⟨by decide +kernel, by decide +kernel, rfl⟩ ⟨rfl, rfl⟩ (by rw [hR]; exact ⟨Nat.le_of_ble_eq_true rfl, Nat.le_of_ble_eq_true rfl⟩) (Nat.le_of_ble_eq_true rfl) (by omega) (fun r_1 X1 M1 K1 h_2 => ?_)
  obtain ⟨er_1, hX1, hM1, hK1⟩ := h_2
  subst X1 M1 K1
  try simp only [sa_ap, si_ap, reduceIte, Nat.reduceEqDiff] at er_1
  refine g_if_ne C dX10_pass_8 (tgt := 22) (by decide) (fun c_8 => ?_) (fun c_8 => ?_)
  · try simp only [sa_ap, si_ap, reduceIte, Nat.reduceEqDiff, up_us, lg_cmp_lt, lg_cmp_gt, lg_cmp_le, lg_cmp_ge] at c_8
    obtain ⟨nn, hn1, hn6, rfl⟩ := inr_ix (p := p1) (by rw [← er_1]; exact c_8)
    have c_cl : (nI nn).toNatClampNeg = nn := nI_clamp (by omega)
    rw [c_cl] at hrc hrs hcap hQ
    refine g_aload_n C dX10_pass_22 0 rfl ?_
    refine gf_X10_now C tw335 dX10_pass_23 ?_
    refine g_iload_n C dX10_pass_26 1 rfl ?_
    refine g_iadd C dX10_pass_27 ?_
    refine g_ldc C dX10_pass_28 tw502 ?_
    refine g_icmp_le C dX10_pass_30 (tgt := 44) (by decide) (fun c_30 => ?_) (fun c_30 => ?_)
    · try simp only [sa_ap, si_ap, reduceIte, Nat.reduceEqDiff, up_us, lg_cmp_lt, lg_cmp_gt, lg_cmp_le, lg_cmp_ge] at c_30
      refine g_iconst C dX10_pass_44 (v := 0) (by decide) ?_
      refine g_istore_n C dX10_pass_45 (L' := [(2, .int 0), (0, .ref (gad G 0)), (1, .int (nI nn))]) rfl (by rw [hL]; decide) ?_
      have lp46 : ∀ (n i : Nat) (hi : i + n = nn), GH G (WX G (ps_X z z5 z8 v X i) M (ps_K z z5 z8 v X K i)) [(0, .ref (gad G 0)), (1, .int (nI nn)), (2, .int (nI i))] (((ps_K z z5 z8 v X K i)).2.1 4 - K.2.1 4) (((ps_K z z5 z8 v X K i)).2.1 6 - K.2.1 6) 46 [] := by
        intro n
        induction n with
        | zero =>
          intro i hi
          obtain rfl : nn = i := by omega
          have hp0 := ps_le z z5 z8 v X K 0 nn
          rw [Nat.zero_add] at hp0
          have hp00 : ps_K z z5 z8 v X K 0 = K := rfl
          rw [hp00] at hp0
          refine g_iload_n C dX10_pass_46 2 rfl ?_
          refine g_iload_n C dX10_pass_47 1 rfl ?_
          refine g_icmp_ge C dX10_pass_48 (tgt := 61) (by decide) (fun c_48 => ?_) (fun c_48 => absurd (nI_le (a := nn) (b := nn) (Nat.le_refl _) (by omega)) c_48)
          refine g_aload_n C dX10_pass_61 0 rfl ?_
          refine gf_X10_now C tw335 dX10_pass_62 ?_
          refine g_topi ((hs.ps nn).1) ?_
          refine g_iretW C hr hQ (by omega) (by omega) dX10_pass_65 ?_
          exact ⟨(by first | with_reducible rfl | (subst er_1; first | with_reducible rfl | (simp only [sa_ap, si_ap, si_sa, sa_sa, sa_3, sa_4, sa_5, sa_6, sa_7, sa_8, xk_pass, up_us, up_up, c_8, c_cl, c_30]; done) | (simp [sa_ap, si_ap, si_sa, sa_sa, sa_3, sa_4, sa_5, sa_6, sa_7, sa_8, xk_pass, up_us, up_up, c_8, c_cl, c_30]; done))), (by first | with_reducible rfl | (subst er_1; first | with_reducible rfl | (simp only [sa_ap, si_ap, si_sa, sa_sa, sa_3, sa_4, sa_5, sa_6, sa_7, sa_8, xk_pass, up_us, up_up, c_8, c_cl, c_30]; done) | (simp [sa_ap, si_ap, si_sa, sa_sa, sa_3, sa_4, sa_5, sa_6, sa_7, sa_8, xk_pass, up_us, up_up, c_8, c_cl, c_30]; done))), rfl, (by first | with_reducible rfl | (subst er_1; first | with_reducible rfl | (simp only [sa_ap, si_ap, si_sa, sa_sa, sa_3, sa_4, sa_5, sa_6, sa_7, sa_8, xk_pass, up_us, up_up, c_8, c_cl, c_30]; done) | (simp [sa_ap, si_ap, si_sa, sa_sa, sa_3, sa_4, sa_5, sa_6, sa_7, sa_8, xk_pass, up_us, up_up, c_8, c_cl, c_30]; done)))⟩
        | succ n ih =>
          intro i hi
          have hp0 := ps_le z z5 z8 v X K 0 i
          rw [Nat.zero_add] at hp0
          have hp00 : ps_K z z5 z8 v X K 0 = K := rfl
          rw [hp00] at hp0
          have hp1 := ps_le z z5 z8 v X K (i + 1) n
          rw [show i + 1 + n = nn by omega] at hp1
          have hpq := kq (show ps_K z z5 z8 v X K (i + 1) = kLs (ps_K z z5 z8 v X K i) 0 (v + i) (sc_A (v + i) z z5 z8 (ps_X z z5 z8 v X i)).2 from rfl)
          have hpl := kLs_le0 (v + i) (sc_A (v + i) z z5 z8 (ps_X z z5 z8 v X i)).2 (ps_K z z5 z8 v X K i)
          refine g_iload_n C dX10_pass_46 2 rfl ?_
          refine g_iload_n C dX10_pass_47 1 rfl ?_
          refine g_icmp_ge C dX10_pass_48 (tgt := 61) (by decide) (fun c_48 => absurd c_48 (nI_ge (a := i) (b := nn) (by omega) (by omega))) (fun c_48 => ?_)
          refine g_aload_n C dX10_pass_51 0 rfl ?_
          refine g_callVvW C dX10_pass_52 (c_X10_goThroughSecond _ _ _ _ _ _ _ _ _ (v + i) z z5 z8 (hs.ps i) hzl h5 h8 (by omega) (by omega) (by omega)) tw906 tw908 tp7 tw1 tw909 (rv_X10 C) rfl ⟨by decide +kernel, by decide +kernel, rfl⟩ ⟨rfl, rfl⟩ (by rw [hR]; exact ⟨Nat.le_of_ble_eq_true rfl, Nat.le_of_ble_eq_true rfl⟩) (Nat.le_of_ble_eq_true rfl) (by omega) (fun X1 M1 K1 h_3 => ?_)
          obtain ⟨hX1, hM1, hK1⟩ := h_3
          subst X1 M1 K1
          refine g_iinc C dX10_pass_55 2 rfl (v := nI (i + 1)) (nI_1 _) (L' := [(2, .int (nI (i + 1))), (0, .ref (gad G 0)), (1, .int (nI nn))]) rfl (by rw [hL]; decide) ?_
          refine g_goto C dX10_pass_58 (tgt := 46) (by decide) ?_
          exact g_sub [1, 2, 0] rfl (g_to rfl rfl (by omega) (by omega) (ih (i + 1) (by omega)))
      exact g_sub [1, 2, 0] rfl (g_to rfl rfl (by show _ = K.2.1 4 - K.2.1 4; omega) (by show _ = K.2.1 6 - K.2.1 6; omega) (lp46 (nn) 0 (by omega)))
    · try simp only [sa_ap, si_ap, reduceIte, Nat.reduceEqDiff, up_us, lg_cmp_lt, lg_cmp_gt, lg_cmp_le, lg_cmp_ge] at c_30
      exact absurd hx (by first | with_reducible rfl | (subst er_1; first | with_reducible rfl | (simp only [sa_ap, si_ap, si_sa, sa_sa, sa_3, sa_4, sa_5, sa_6, sa_7, sa_8, xk_pass, up_us, up_up, c_8, c_cl, c_30]; done) | (simp [sa_ap, si_ap, si_sa, sa_sa, sa_3, sa_4, sa_5, sa_6, sa_7, sa_8, xk_pass, up_us, up_up, c_8, c_cl, c_30]; done)))
  · try simp only [sa_ap, si_ap, reduceIte, Nat.reduceEqDiff, up_us, lg_cmp_lt, lg_cmp_gt, lg_cmp_le, lg_cmp_ge] at c_8
    exact absurd hx (by first | with_reducible rfl | (subst er_1; first | with_reducible rfl | (simp only [sa_ap, si_ap, si_sa, sa_sa, sa_3, sa_4, sa_5, sa_6, sa_7, sa_8, xk_pass, up_us, up_up, c_8]; done) | (simp [sa_ap, si_ap, si_sa, sa_sa, sa_3, sa_4, sa_5, sa_6, sa_7, sa_8, xk_pass, up_us, up_up, c_8]; done)))

set_option maxHeartbeats 400000 in
set_option maxRecDepth 100000 in
/-- logAt.logAt -/
theorem n_X10_logAt (l : Launch) (D : va_G) (cy : Nat → ClassId) (A : Nat → Prop) (ad sad : Nat → Nat) (X M : XF) (K : KF) (p1 : Int32) (hcap : K.2.1 0 < 2 ^ 26) (hlen : (K.2.2.1 0).length < 2 ^ 26) (hch : ∀ j : Nat, (K.2.2.1 0).getD j 0 < 128) (hx : xk_b p1 (nI (K.2.2.1 0).length) = 0) : Met l yX10_logAt (wsA yX10_logAt cX10_logAt 2 (some .char)) ({ frames := 4, cells := 0, slots := 0, locals := 88 }) (PcW D cy A ad sad X M K [.ref (ad 0), .int p1]) (QiW D cy A ad (fun r X1 M1 K1 => r = nI ((K.2.2.1 0).getD p1.toNatClampNeg 0) ∧ X1 = X ∧ M1 = M ∧ K1 = K)) 0 0 A := by
  refine met_ofW [(0, .ref (ad 0)), (1, .int p1)] (by decide +kernel) (Nat.le_of_ble_eq_true rfl) rfl ?_
  intro G C hl hR hL hD hcy hA had hsa hr hQ
  subst hD hcy hA had hsa hl
  refine g_iload_n C dX10_logAt_0 1 rfl ?_
  refine g_aload_n C dX10_logAt_1 0 rfl ?_
  refine gf_X10_log C tw332 dX10_logAt_2 ?_
  refine gf_X4_text C tw312 dX10_logAt_5 ?_
  refine g_callViW C dX10_logAt_8 (c_lenW0 _ _ _ _ _ _ _ _ _ hcap) tw1092 tw1093 tw1094 tw13 tw1095 (rv_J4_0 C) rfl ⟨by decide +kernel, by decide +kernel, rfl⟩ ⟨rfl, rfl⟩ (by rw [hR]; decide) (Nat.le_of_ble_eq_true rfl) (by rw [hR]; decide) (fun r_1 X1 M1 K1 h_2 => ?_)
  obtain ⟨rfl, hX1, hM1, hK1⟩ := h_2
  subst X1 M1 K1
  refine g_callSiW C dX10_logAt_11 (c_X10_isBelow _ _ _ _ _ _ _ _ _ _ _) tw499 tw500 tw1 tw501 rfl ⟨by decide +kernel, by decide +kernel, rfl⟩ ⟨rfl, rfl⟩ (by rw [hR]; decide) (Nat.le_of_ble_eq_true rfl) (by rw [hR]; decide) (fun r_3 X1 M1 K1 h_4 => ?_)
  obtain ⟨er_3, hX1, hM1, hK1⟩ := h_4
  subst X1 M1 K1
  try simp only [sa_ap, si_ap, reduceIte, Nat.reduceEqDiff] at er_3
  refine g_if_ne C dX10_logAt_14 (tgt := 28) (by decide) (fun c_14 => ?_) (fun c_14 => ?_)
  · try simp only [sa_ap, si_ap, reduceIte, Nat.reduceEqDiff, up_us, lg_cmp_lt, lg_cmp_gt, lg_cmp_le, lg_cmp_ge] at c_14
    obtain ⟨j, hj, rfl⟩ := bel_ix (p := p1) (s := nI (K.2.2.1 0).length) (n := (K.2.2.1 0).length) rfl (by omega) (by rw [← er_3]; exact c_14)
    have c_clj : (nI j).toNatClampNeg = j := nI_clamp (by omega)
    refine g_aload_n C dX10_logAt_28 0 rfl ?_
    refine gf_X10_log C tw332 dX10_logAt_29 ?_
    refine gf_X4_text C tw312 dX10_logAt_32 ?_
    refine g_iload_n C dX10_logAt_35 1 rfl ?_
    refine g_callViW C dX10_logAt_36 (c_chW0 _ _ _ _ _ _ _ _ _ j hj hcap) tw1100 tw1101 tw1102 tw13 tw1103 (rv_J4_0 C) rfl ⟨by decide +kernel, by decide +kernel, rfl⟩ ⟨rfl, rfl⟩ (by rw [hR]; decide) (Nat.le_of_ble_eq_true rfl) (by rw [hR]; decide) (fun r_5 X1 M1 K1 h_6 => ?_)
    obtain ⟨rfl, hX1, hM1, hK1⟩ := h_6
    subst X1 M1 K1
    refine g_zretW C hr (ch_nar (hch _)) hQ (Nat.le_refl _) (Nat.le_refl _) dX10_logAt_39 ?_
    exact ⟨(by first | with_reducible rfl | (subst er_3; first | with_reducible rfl | (simp only [sa_ap, si_ap, si_sa, sa_sa, sa_3, sa_4, sa_5, sa_6, sa_7, sa_8, xk_b, up_us, up_up, c_14, c_clj]; done) | (simp [sa_ap, si_ap, si_sa, sa_sa, sa_3, sa_4, sa_5, sa_6, sa_7, sa_8, xk_b, up_us, up_up, c_14, c_clj]; done))), (by first | with_reducible rfl | (subst er_3; first | with_reducible rfl | (simp only [sa_ap, si_ap, si_sa, sa_sa, sa_3, sa_4, sa_5, sa_6, sa_7, sa_8, xk_b, up_us, up_up, c_14, c_clj]; done) | (simp [sa_ap, si_ap, si_sa, sa_sa, sa_3, sa_4, sa_5, sa_6, sa_7, sa_8, xk_b, up_us, up_up, c_14, c_clj]; done))), rfl, rfl⟩
  · try simp only [sa_ap, si_ap, reduceIte, Nat.reduceEqDiff, up_us, lg_cmp_lt, lg_cmp_gt, lg_cmp_le, lg_cmp_ge] at c_14
    exact absurd hx (by first | with_reducible rfl | (subst er_3; first | with_reducible rfl | (simp only [sa_ap, si_ap, si_sa, sa_sa, sa_3, sa_4, sa_5, sa_6, sa_7, sa_8, xk_b, up_us, up_up, c_14]; done) | (simp [sa_ap, si_ap, si_sa, sa_sa, sa_3, sa_4, sa_5, sa_6, sa_7, sa_8, xk_b, up_us, up_up, c_14]; done)))

