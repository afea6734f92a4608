/-! the law: the plan -/

set_option maxHeartbeats 2000000 in
set_option maxRecDepth 100000 in
/-- build.build -/
theorem c_L_build (l : Launch) (D : va_G) (cy : Nat → ClassId) (A : Nat → Prop) (ad sad : Nat → Nat) (X M : XF) (K : KF) (hB0 : Bd sad 0 0 0 0 0 X M K) (hst : l.stackTraces = false) : Met l yL_build (wsA yL_build cL_build 4 none) ({ frames := 14, cells := 3, slots := 18, locals := 386 }) (PcW D cy A ad sad X M K [.ref (ad 42), .ref (sad 900)]) (QvW D cy A ad (fun X1 M1 K1 => ∃ z5, IV sad 0 0 z5 X1 M1 K1)) 3 18 A := by
  refine met_ofW [(0, .ref (ad 42)), (1, .ref (sad 900))] (by decide +kernel) (Nat.le_of_ble_eq_true rfl) rfl ?_
  intro G C hl hR hL hD hcy hA had hsa hr hQ
  subst hD hcy hA had hsa hl
  have hrc : (gR G).cells = 3 := by rw [hR]
  have hrs : (gR G).slots = 18 := by rw [hR]
  refine g_iconst C dL_build_0 (v := 0) (by decide) ?_
  refine g_istore_n C dL_build_1 (L' := [(2, .int 0), (0, .ref (gad G 42)), (1, .ref (gsa G 900))]) rfl (by rw [hL]; decide) ?_
  have lp2 : ∀ (n i : Nat) (Y : XF) (N : XF) (hi : i + n = 3) (hB : Bd (gsa G) i 0 0 0 0 Y N K), GH G (WX G Y N K) [(0, .ref (gad G 42)), (1, .ref (gsa G 900)), (2, .int (nI i))] 0 0 2 [] := by
    intro n
    induction n with
    | zero =>
      intro i Y N hi hB
      obtain rfl : i = 3 := by omega
      refine g_iload_n C dL_build_2 2 rfl ?_
      refine g_iconst C dL_build_3 (v := 3) (by decide) ?_
      refine g_icmp_ge C dL_build_4 (tgt := 87) (by decide) (fun c_4 => ?_) (fun c_4 => absurd (nI_le (a := 3) (b := 3) (Nat.le_refl _) (by omega)) c_4)
      refine g_iconst C dL_build_87 (v := 0) (by decide) ?_
      refine g_istore_n C dL_build_88 (L' := [(2, .int 0), (0, .ref (gad G 42)), (1, .ref (gsa G 900))]) rfl (by rw [hL]; decide) ?_
      have lp89 : ∀ (n i : Nat) (Y : XF) (hi : i + n = 5) (hB : Bd (gsa G) 3 i 0 0 0 Y N K), GH G (WX G Y N K) [(0, .ref (gad G 42)), (1, .ref (gsa G 900)), (2, .int (nI i))] 0 0 89 [] := by
        intro n
        induction n with
        | zero =>
          intro i Y hi hB
          obtain rfl : i = 5 := by omega
          refine g_iload_n C dL_build_89 2 rfl ?_
          refine g_iconst C dL_build_90 (v := 5) (by decide) ?_
          refine g_icmp_ge C dL_build_91 (tgt := 168) (by decide) (fun c_91 => ?_) (fun c_91 => absurd (nI_le (a := 5) (b := 5) (Nat.le_refl _) (by omega)) c_91)
          refine g_iconst C dL_build_168 (v := 0) (by decide) ?_
          refine g_istore_n C dL_build_169 (L' := [(2, .int 0), (0, .ref (gad G 42)), (1, .ref (gsa G 900))]) rfl (by rw [hL]; decide) ?_
          have lp170 : ∀ (n i : Nat) (Y : XF) (z : Nat) (hi : i + n = 3) (hB : Bd (gsa G) 3 5 i 0 z Y N K), GH G (WX G Y N K) [(0, .ref (gad G 42)), (1, .ref (gsa G 900)), (2, .int (nI i))] i (6 * i) 170 [] := by
            intro n
            induction n with
            | zero =>
              intro i Y z hi hB
              obtain rfl : i = 3 := by omega
              refine g_iload_n C dL_build_170 2 rfl ?_
              refine g_iconst C dL_build_171 (v := 3) (by decide) ?_
              refine g_icmp_ge C dL_build_172 (tgt := 241) (by decide) (fun c_172 => ?_) (fun c_172 => absurd (nI_le (a := 3) (b := 3) (Nat.le_refl _) (by omega)) c_172)
              refine g_iconst C dL_build_241 (v := 0) (by decide) ?_
              refine g_istore_n C dL_build_242 (L' := [(2, .int 0), (0, .ref (gad G 42)), (1, .ref (gsa G 900))]) rfl (by rw [hL]; decide) ?_
              have lp243 : ∀ (n i : Nat) (Y : XF) (N : XF) (hi : i + n = 6) (hB : Bd (gsa G) 3 5 3 i z Y N K), GH G (WX G Y N K) [(0, .ref (gad G 42)), (1, .ref (gsa G 900)), (2, .int (nI i))] 3 18 243 [] := by
                intro n
                induction n with
                | zero =>
                  intro i Y N hi hB
                  obtain rfl : i = 6 := by omega
                  refine g_iload_n C dL_build_243 2 rfl ?_
                  refine g_bipush C dL_build_244 (v := 6) (by decide) ?_
                  refine g_icmp_ge C dL_build_246 (tgt := 365) (by decide) (fun c_246 => ?_) (fun c_246 => absurd (nI_le (a := 6) (b := 6) (Nat.le_refl _) (by omega)) c_246)
                  refine g_aload_n C dL_build_365 0 rfl ?_
                  refine gf_L_o C tw363 dL_build_366 ?_
                  refine g_bipush C dL_build_369 (v := 14) (by decide) ?_
                  refine g_iconst C dL_build_371 (v := 0) (by decide) ?_
                  refine g_iconst C dL_build_372 (v := 1) (by decide) ?_
                  refine g_iconst C dL_build_373 (v := 0) (by decide) ?_
                  refine g_iconst C dL_build_374 (v := 0) (by decide) ?_
                  refine g_iconst C dL_build_375 (v := 0) (by decide) ?_
                  refine g_callH C dL_build_376 (c_deedf_14 _ _ _ _ _ _ _ _ _ 0 (by decide) hB.2.2.2.1.2.2.1 0 0 0) tw407 tw408 tw0 tw409 rfl ⟨by decide +kernel, by decide +kernel, rfl⟩ ⟨rfl, rfl⟩ (by rw [hR]; exact ⟨Nat.le_of_ble_eq_true rfl, Nat.le_of_ble_eq_true rfl⟩) (Nat.le_of_ble_eq_true rfl) (by omega) (fun r_1 X1 M1 K1 h_2 => ?_)
                  obtain ⟨er_1, hX1, hM1, hK1⟩ := h_2
                  subst X1 M1 K1
                  try simp only [sa_ap, si_ap, reduceIte, Nat.reduceEqDiff] at er_1
                  refine g_pop C dL_build_379 rfl ?_
                  refine g_vretW C hr hQ (by omega) (by omega) dL_build_380 ?_
                  exact ⟨z, hB.done _ (up_bo hB.2.2.2.1.2.2.1 isBo_1)⟩
                | succ n ih =>
                  intro i Y N hi hB
                  refine g_iload_n C dL_build_243 2 rfl ?_
                  refine g_bipush C dL_build_244 (v := 6) (by decide) ?_
                  refine g_icmp_ge C dL_build_246 (tgt := 365) (by decide) (fun c_246 => absurd c_246 (nI_ge (a := i) (b := 6) (by omega) (by omega))) (fun c_246 => ?_)
                  refine g_iload_n C dL_build_249 2 rfl ?_
                  refine g_iconst C dL_build_250 (v := 5) (by decide) ?_
                  refine g_icmp_ne C dL_build_251 (tgt := 258) (by decide) (fun c_251 => ?_) (fun c_251 => ?_)
                  · try simp only [sa_ap, si_ap, reduceIte, Nat.reduceEqDiff, up_us, lg_cmp_lt, lg_cmp_gt, lg_cmp_le, lg_cmp_ge] at c_251
                    refine g_aload_n C dL_build_258 1 rfl ?_
                    refine g_bipush C dL_build_259 (v := 41) (by decide) ?_
                    refine g_iload_n C dL_build_261 2 rfl ?_
                    refine g_iadd C dL_build_262 ?_
                    refine g_topi (by exact nI_add 41 i) ?_
                    refine g_bipush C dL_build_263 (v := 8) (by decide) ?_
                    refine g_callSiW C dL_build_265 (c_L_pick _ _ _ _ _ _ _ _ _ (41 + i) (by omega) 8 (by decide) (by decide)) tw399 tw400 tw0 tw401 rfl ⟨by decide +kernel, by decide +kernel, rfl⟩ ⟨rfl, rfl⟩ (by rw [hR]; exact ⟨Nat.le_of_ble_eq_true rfl, Nat.le_of_ble_eq_true rfl⟩) (Nat.le_of_ble_eq_true rfl) (by omega) (fun r_3 X1 M1 K1 h_4 => ?_)
                    obtain ⟨rfl, hX1, hM1, hK1⟩ := h_4
                    subst X1 M1 K1
                    refine g_iconst C dL_build_268 (v := 4) (by decide) ?_
                    refine g_isub C dL_build_269 ?_
                    refine g_topi (y := lo_f (gsa G) i) (by simp [lo_f, c_251]) ?_
                    refine g_istore_n C dL_build_270 (L' := [(3, .int (lo_f (gsa G) i)), (0, .ref (gad G 42)), (1, .ref (gsa G 900)), (2, .int (nI i))]) rfl (by rw [hL]; decide) ?_
                    refine g_aload_n C dL_build_271 1 rfl ?_
                    refine gf_L_o C tw363 dL_build_272 ?_
                    refine g_bipush C dL_build_275 (v := 11) (by decide) ?_
                    refine g_kldc1000 C dL_build_277 ?_
                    refine g_iload_n C dL_build_279 3 rfl ?_
                    refine g_callKiP0 C rfl (c0_J0_charAt_5068e _ _ _ _ _ _ i (by omega)) tw1116 tw1117 tw1118 tw14 tw1119 rfl ⟨by decide +kernel, by decide +kernel, rfl⟩ ⟨rfl, rfl⟩ (by rw [hR]; exact ⟨Nat.le_of_ble_eq_true rfl, Nat.le_of_ble_eq_true rfl⟩) (Nat.le_of_ble_eq_true rfl) dL_build_280 (by omega) (fun r_5 h_6 => ?_)
                    refine g_topi (y := kndB.getD i 0) h_6 ?_
                    refine g_iload_n C dL_build_283 3 rfl ?_
                    refine g_if_ne C dL_build_284 (tgt := 297) (by decide) (fun c_284 => ?_) (fun c_284 => ?_)
                    · try simp only [sa_ap, si_ap, reduceIte, Nat.reduceEqDiff, up_us, lg_cmp_lt, lg_cmp_gt, lg_cmp_le, lg_cmp_ge] at c_284
                      refine g_iconst C dL_build_297 (v := 0) (by decide) ?_
                      refine g_topi (y := nI (ab_f (gsa G) i)) (by unfold ab_f; first | (rw [if_neg (fun q => c_284 (by rw [q]; rfl))]; done) | (rw [if_neg (fun q => c_284 (by rw [q]; rfl))]; rfl) | (rw [if_pos ((nI_eq (by omega) (by decide)).mp (show nI i = nI 0 from c_284))]; done) | (rw [if_pos ((nI_eq (by omega) (by decide)).mp (show nI i = nI 0 from c_284))]; rfl)) ?_
                      refine g_iload_n C dL_build_298 0 rfl ?_
                      refine g_iload_n C dL_build_299 0 rfl ?_
                      refine g_sipush C dL_build_300 (v := 400) (by decide) ?_
                      refine g_iadd C dL_build_303 ?_
                      refine g_aload_n C dL_build_304 2 rfl ?_
                      refine g_bipush C dL_build_305 (v := 48) (by decide) ?_
                      refine g_iload_n C dL_build_307 3 rfl ?_
                      refine g_iadd C dL_build_308 ?_
                      refine g_topi (by exact nI_add 48 i) ?_
                      refine g_sipush C dL_build_309 (v := 800) (by decide) ?_
                      refine g_callSiW C dL_build_312 (c_L_pick _ _ _ _ _ _ _ _ _ (48 + i) (by omega) 800 (by decide) (by decide)) tw399 tw400 tw0 tw401 rfl ⟨by decide +kernel, by decide +kernel, rfl⟩ ⟨rfl, rfl⟩ (by rw [hR]; exact ⟨Nat.le_of_ble_eq_true rfl, Nat.le_of_ble_eq_true rfl⟩) (Nat.le_of_ble_eq_true rfl) (by omega) (fun r_7 X1 M1 K1 h_8 => ?_)
                      obtain ⟨rfl, hX1, hM1, hK1⟩ := h_8
                      subst X1 M1 K1
                      refine g_iadd C dL_build_315 ?_
                      refine g_topi (y := hi_f (gsa G) i) rfl ?_
                      refine g_aload_n C dL_build_316 2 rfl ?_
                      refine g_bipush C dL_build_317 (v := 54) (by decide) ?_
                      refine g_iload_n C dL_build_319 3 rfl ?_
                      refine g_iadd C dL_build_320 ?_
                      refine g_topi (by exact nI_add 54 i) ?_
                      refine g_iconst C dL_build_321 (v := 4) (by decide) ?_
                      refine g_callSiW C dL_build_322 (c_L_pick _ _ _ _ _ _ _ _ _ (54 + i) (by omega) 4 (by decide) (by decide)) tw399 tw400 tw0 tw401 rfl ⟨by decide +kernel, by decide +kernel, rfl⟩ ⟨rfl, rfl⟩ (by rw [hR]; exact ⟨Nat.le_of_ble_eq_true rfl, Nat.le_of_ble_eq_true rfl⟩) (Nat.le_of_ble_eq_true rfl) (by omega) (fun r_9 X1 M1 K1 h_10 => ?_)
                      obtain ⟨rfl, hX1, hM1, hK1⟩ := h_10
                      subst X1 M1 K1
                      refine g_callH C dL_build_325 (c_deedf_11 _ _ _ _ _ _ _ _ _ (kndB.getD i 0) (nI (ab_f (gsa G) i)) (lo_f (gsa G) i) (hi_f (gsa G) i) (nI (pn (gsa G) (54 + i) 4)) (kch i (by omega)).1 (kch i (by omega)).2 i hB.x6 (by omega) (rule_ok (by omega))) tw407 tw408 tw0 tw409 rfl ⟨by decide +kernel, by decide +kernel, rfl⟩ ⟨rfl, rfl⟩ (by rw [hR]; exact ⟨Nat.le_of_ble_eq_true rfl, Nat.le_of_ble_eq_true rfl⟩) (Nat.le_of_ble_eq_true rfl) (by omega) (fun r_11 X1 M1 K1 h_12 => ?_)
                      obtain ⟨er_11, hX1, hM1, hK1⟩ := h_12
                      subst X1 M1 K1
                      try simp only [sa_ap, si_ap, reduceIte, Nat.reduceEqDiff] at er_11
                      refine g_pop C dL_build_328 rfl ?_
                      refine g_aload_n C dL_build_329 1 rfl ?_
                      refine gf_L_o C tw363 dL_build_330 ?_
                      refine g_bipush C dL_build_333 (v := 12) (by decide) ?_
                      refine g_iload_n C dL_build_335 3 rfl ?_
                      refine g_aload_n C dL_build_336 2 rfl ?_
                      refine g_bipush C dL_build_337 (v := 60) (by decide) ?_
                      refine g_iload_n C dL_build_339 3 rfl ?_
                      refine g_iadd C dL_build_340 ?_
                      refine g_topi (by exact nI_add 60 i) ?_
                      refine g_bipush C dL_build_341 (v := 6) (by decide) ?_
                      refine g_callSiW C dL_build_343 (c_L_pick _ _ _ _ _ _ _ _ _ (60 + i) (by omega) 6 (by decide) (by decide)) tw399 tw400 tw0 tw401 rfl ⟨by decide +kernel, by decide +kernel, rfl⟩ ⟨rfl, rfl⟩ (by rw [hR]; exact ⟨Nat.le_of_ble_eq_true rfl, Nat.le_of_ble_eq_true rfl⟩) (Nat.le_of_ble_eq_true rfl) (by omega) (fun r_13 X1 M1 K1 h_14 => ?_)
                      obtain ⟨rfl, hX1, hM1, hK1⟩ := h_14
                      subst X1 M1 K1
                      refine g_callSiW C dL_build_346 (c_ask_12 _ _ _ _ _ _ _ _ _ i (by omega) (nI (pn (gsa G) (60 + i) 6)) (i + 1) (by exact nI_1 i) (by omega) (may_ok (by omega) (pn_lt _ _ (by decide)))) tw1112 tw1113 tw0 tw1114 rfl ⟨by decide +kernel, by decide +kernel, rfl⟩ ⟨rfl, rfl⟩ (by rw [hR]; exact ⟨Nat.le_of_ble_eq_true rfl, Nat.le_of_ble_eq_true rfl⟩) (Nat.le_of_ble_eq_true rfl) (by omega) (fun r_15 X1 M1 K1 h_16 => ?_)
                      obtain ⟨er_15, hX1, hM1, hK1⟩ := h_16
                      subst X1 M1 K1
                      try simp only [sa_ap, si_ap, reduceIte, Nat.reduceEqDiff] at er_15
                      refine g_pop C dL_build_349 rfl ?_
                      refine g_aload_n C dL_build_350 1 rfl ?_
                      refine gf_L_waivedTo C tw364 dL_build_351 ?_
                      refine g_iload_n C dL_build_354 3 rfl ?_
                      refine g_sipush C dL_build_355 (v := (-9999)) (by decide) ?_
                      refine as_43 C (by omega) dL_build_358 ?_
                      refine g_iinc C dL_build_359 3 rfl (v := nI (i + 1)) (nI_1 _) (L' := [(2, .int (nI (i + 1))), (3, .int (lo_f (gsa G) i)), (0, .ref (gad G 42)), (1, .ref (gsa G 900))]) rfl (by rw [hL]; decide) ?_
                      refine g_goto C dL_build_362 (tgt := 243) (by decide) ?_
                      exact g_sub [2, 3, 0] rfl (g_to rfl rfl rfl rfl (ih (i + 1) _ _ (by omega) (hB.rule (by omega))))
                    · try simp only [sa_ap, si_ap, reduceIte, Nat.reduceEqDiff, up_us, lg_cmp_lt, lg_cmp_gt, lg_cmp_le, lg_cmp_ge] at c_284
                      refine g_aload_n C dL_build_287 2 rfl ?_
                      refine g_bipush C dL_build_288 (v := 47) (by decide) ?_
                      refine g_iconst C dL_build_290 (v := 3) (by decide) ?_
                      refine g_callSiW C dL_build_291 (c_L_pick _ _ _ _ _ _ _ _ _ (47) (by omega) 3 (by decide) (by decide)) tw399 tw400 tw0 tw401 rfl ⟨by decide +kernel, by decide +kernel, rfl⟩ ⟨rfl, rfl⟩ (by rw [hR]; exact ⟨Nat.le_of_ble_eq_true rfl, Nat.le_of_ble_eq_true rfl⟩) (Nat.le_of_ble_eq_true rfl) (by omega) (fun r_17 X1 M1 K1 h_18 => ?_)
                      obtain ⟨rfl, hX1, hM1, hK1⟩ := h_18
                      subst X1 M1 K1
                      refine g_goto C dL_build_294 (tgt := 298) (by decide) ?_
                      refine g_topi (y := nI (ab_f (gsa G) i)) (by unfold ab_f; first | (rw [if_neg (fun q => c_284 (by rw [q]; rfl))]; done) | (rw [if_neg (fun q => c_284 (by rw [q]; rfl))]; rfl) | (rw [if_pos ((nI_eq (by omega) (by decide)).mp (show nI i = nI 0 from c_284))]; done) | (rw [if_pos ((nI_eq (by omega) (by decide)).mp (show nI i = nI 0 from c_284))]; rfl)) ?_
                      refine g_iload_n C dL_build_298 0 rfl ?_
                      refine g_iload_n C dL_build_299 0 rfl ?_
                      refine g_sipush C dL_build_300 (v := 400) (by decide) ?_
                      refine g_iadd C dL_build_303 ?_
                      refine g_aload_n C dL_build_304 2 rfl ?_
                      refine g_bipush C dL_build_305 (v := 48) (by decide) ?_
                      refine g_iload_n C dL_build_307 3 rfl ?_
                      refine g_iadd C dL_build_308 ?_
                      refine g_topi (by exact nI_add 48 i) ?_
                      refine g_sipush C dL_build_309 (v := 800) (by decide) ?_
                      refine g_callSiW C dL_build_312 (c_L_pick _ _ _ _ _ _ _ _ _ (48 + i) (by omega) 800 (by decide) (by decide)) tw399 tw400 tw0 tw401 rfl ⟨by decide +kernel, by decide +kernel, rfl⟩ ⟨rfl, rfl⟩ (by rw [hR]; exact ⟨Nat.le_of_ble_eq_true rfl, Nat.le_of_ble_eq_true rfl⟩) (Nat.le_of_ble_eq_true rfl) (by omega) (fun r_19 X1 M1 K1 h_20 => ?_)
                      obtain ⟨rfl, hX1, hM1, hK1⟩ := h_20
                      subst X1 M1 K1
                      refine g_iadd C dL_build_315 ?_
                      refine g_topi (y := hi_f (gsa G) i) rfl ?_
                      refine g_aload_n C dL_build_316 2 rfl ?_
                      refine g_bipush C dL_build_317 (v := 54) (by decide) ?_
                      refine g_iload_n C dL_build_319 3 rfl ?_
                      refine g_iadd C dL_build_320 ?_
                      refine g_topi (by exact nI_add 54 i) ?_
                      refine g_iconst C dL_build_321 (v := 4) (by decide) ?_
                      refine g_callSiW C dL_build_322 (c_L_pick _ _ _ _ _ _ _ _ _ (54 + i) (by omega) 4 (by decide) (by decide)) tw399 tw400 tw0 tw401 rfl ⟨by decide +kernel, by decide +kernel, rfl⟩ ⟨rfl, rfl⟩ (by rw [hR]; exact ⟨Nat.le_of_ble_eq_true rfl, Nat.le_of_ble_eq_true rfl⟩) (Nat.le_of_ble_eq_true rfl) (by omega) (fun r_21 X1 M1 K1 h_22 => ?_)
                      obtain ⟨rfl, hX1, hM1, hK1⟩ := h_22
                      subst X1 M1 K1
                      refine g_callH C dL_build_325 (c_deedf_11 _ _ _ _ _ _ _ _ _ (kndB.getD i 0) (nI (ab_f (gsa G) i)) (lo_f (gsa G) i) (hi_f (gsa G) i) (nI (pn (gsa G) (54 + i) 4)) (kch i (by omega)).1 (kch i (by omega)).2 i hB.x6 (by omega) (rule_ok (by omega))) tw407 tw408 tw0 tw409 rfl ⟨by decide +kernel, by decide +kernel, rfl⟩ ⟨rfl, rfl⟩ (by rw [hR]; exact ⟨Nat.le_of_ble_eq_true rfl, Nat.le_of_ble_eq_true rfl⟩) (Nat.le_of_ble_eq_true rfl) (by omega) (fun r_23 X1 M1 K1 h_24 => ?_)
                      obtain ⟨er_23, hX1, hM1, hK1⟩ := h_24
                      subst X1 M1 K1
                      try simp only [sa_ap, si_ap, reduceIte, Nat.reduceEqDiff] at er_23
                      refine g_pop C dL_build_328 rfl ?_
                      refine g_aload_n C dL_build_329 1 rfl ?_
                      refine gf_L_o C tw363 dL_build_330 ?_
                      refine g_bipush C dL_build_333 (v := 12) (by decide) ?_
                      refine g_iload_n C dL_build_335 3 rfl ?_
                      refine g_aload_n C dL_build_336 2 rfl ?_
                      refine g_bipush C dL_build_337 (v := 60) (by decide) ?_
                      refine g_iload_n C dL_build_339 3 rfl ?_
                      refine g_iadd C dL_build_340 ?_
                      refine g_topi (by exact nI_add 60 i) ?_
                      refine g_bipush C dL_build_341 (v := 6) (by decide) ?_
                      refine g_callSiW C dL_build_343 (c_L_pick _ _ _ _ _ _ _ _ _ (60 + i) (by omega) 6 (by decide) (by decide)) tw399 tw400 tw0 tw401 rfl ⟨by decide +kernel, by decide +kernel, rfl⟩ ⟨rfl, rfl⟩ (by rw [hR]; exact ⟨Nat.le_of_ble_eq_true rfl, Nat.le_of_ble_eq_true rfl⟩) (Nat.le_of_ble_eq_true rfl) (by omega) (fun r_25 X1 M1 K1 h_26 => ?_)
                      obtain ⟨rfl, hX1, hM1, hK1⟩ := h_26
                      subst X1 M1 K1
                      refine g_callSiW C dL_build_346 (c_ask_12 _ _ _ _ _ _ _ _ _ i (by omega) (nI (pn (gsa G) (60 + i) 6)) (i + 1) (by exact nI_1 i) (by omega) (may_ok (by omega) (pn_lt _ _ (by decide)))) tw1112 tw1113 tw0 tw1114 rfl ⟨by decide +kernel, by decide +kernel, rfl⟩ ⟨rfl, rfl⟩ (by rw [hR]; exact ⟨Nat.le_of_ble_eq_true rfl, Nat.le_of_ble_eq_true rfl⟩) (Nat.le_of_ble_eq_true rfl) (by omega) (fun r_27 X1 M1 K1 h_28 => ?_)
                      obtain ⟨er_27, hX1, hM1, hK1⟩ := h_28
                      subst X1 M1 K1
                      try simp only [sa_ap, si_ap, reduceIte, Nat.reduceEqDiff] at er_27
                      refine g_pop C dL_build_349 rfl ?_
                      refine g_aload_n C dL_build_350 1 rfl ?_
                      refine gf_L_waivedTo C tw364 dL_build_351 ?_
                      refine g_iload_n C dL_build_354 3 rfl ?_
                      refine g_sipush C dL_build_355 (v := (-9999)) (by decide) ?_
                      refine as_43 C (by omega) dL_build_358 ?_
                      refine g_iinc C dL_build_359 3 rfl (v := nI (i + 1)) (nI_1 _) (L' := [(2, .int (nI (i + 1))), (3, .int (lo_f (gsa G) i)), (0, .ref (gad G 42)), (1, .ref (gsa G 900))]) rfl (by rw [hL]; decide) ?_
                      refine g_goto C dL_build_362 (tgt := 243) (by decide) ?_
                      exact g_sub [2, 3, 0] rfl (g_to rfl rfl rfl rfl (ih (i + 1) _ _ (by omega) (hB.rule (by omega))))
                  · try simp only [sa_ap, si_ap, reduceIte, Nat.reduceEqDiff, up_us, lg_cmp_lt, lg_cmp_gt, lg_cmp_le, lg_cmp_ge] at c_251
                    refine g_iconst C dL_build_254 (v := 1) (by decide) ?_
                    refine g_goto C dL_build_255 (tgt := 270) (by decide) ?_
                    refine g_topi (y := lo_f (gsa G) i) (by simp [lo_f, c_251]) ?_
                    refine g_istore_n C dL_build_270 (L' := [(3, .int (lo_f (gsa G) i)), (0, .ref (gad G 42)), (1, .ref (gsa G 900)), (2, .int (nI i))]) rfl (by rw [hL]; decide) ?_
                    refine g_aload_n C dL_build_271 1 rfl ?_
                    refine gf_L_o C tw363 dL_build_272 ?_
                    refine g_bipush C dL_build_275 (v := 11) (by decide) ?_
                    refine g_kldc1000 C dL_build_277 ?_
                    refine g_iload_n C dL_build_279 3 rfl ?_
                    refine g_callKiP0 C rfl (c0_J0_charAt_5068e _ _ _ _ _ _ i (by omega)) tw1116 tw1117 tw1118 tw14 tw1119 rfl ⟨by decide +kernel, by decide +kernel, rfl⟩ ⟨rfl, rfl⟩ (by rw [hR]; exact ⟨Nat.le_of_ble_eq_true rfl, Nat.le_of_ble_eq_true rfl⟩) (Nat.le_of_ble_eq_true rfl) dL_build_280 (by omega) (fun r_29 h_30 => ?_)
                    refine g_topi (y := kndB.getD i 0) h_30 ?_
                    refine g_iload_n C dL_build_283 3 rfl ?_
                    refine g_if_ne C dL_build_284 (tgt := 297) (by decide) (fun c_284 => ?_) (fun c_284 => ?_)
                    · try simp only [sa_ap, si_ap, reduceIte, Nat.reduceEqDiff, up_us, lg_cmp_lt, lg_cmp_gt, lg_cmp_le, lg_cmp_ge] at c_284
                      refine g_iconst C dL_build_297 (v := 0) (by decide) ?_
                      refine g_topi (y := nI (ab_f (gsa G) i)) (by unfold ab_f; first | (rw [if_neg (fun q => c_284 (by rw [q]; rfl))]; done) | (rw [if_neg (fun q => c_284 (by rw [q]; rfl))]; rfl) | (rw [if_pos ((nI_eq (by omega) (by decide)).mp (show nI i = nI 0 from c_284))]; done) | (rw [if_pos ((nI_eq (by omega) (by decide)).mp (show nI i = nI 0 from c_284))]; rfl)) ?_
                      refine g_iload_n C dL_build_298 0 rfl ?_
                      refine g_iload_n C dL_build_299 0 rfl ?_
                      refine g_sipush C dL_build_300 (v := 400) (by decide) ?_
                      refine g_iadd C dL_build_303 ?_
                      refine g_aload_n C dL_build_304 2 rfl ?_
                      refine g_bipush C dL_build_305 (v := 48) (by decide) ?_
                      refine g_iload_n C dL_build_307 3 rfl ?_
                      refine g_iadd C dL_build_308 ?_
                      refine g_topi (by exact nI_add 48 i) ?_
                      refine g_sipush C dL_build_309 (v := 800) (by decide) ?_
                      refine g_callSiW C dL_build_312 (c_L_pick _ _ _ _ _ _ _ _ _ (48 + i) (by omega) 800 (by decide) (by decide)) tw399 tw400 tw0 tw401 rfl ⟨by decide +kernel, by decide +kernel, rfl⟩ ⟨rfl, rfl⟩ (by rw [hR]; exact ⟨Nat.le_of_ble_eq_true rfl, Nat.le_of_ble_eq_true rfl⟩) (Nat.le_of_ble_eq_true rfl) (by omega) (fun r_31 X1 M1 K1 h_32 => ?_)
                      obtain ⟨rfl, hX1, hM1, hK1⟩ := h_32
                      subst X1 M1 K1
                      refine g_iadd C dL_build_315 ?_
                      refine g_topi (y := hi_f (gsa G) i) rfl ?_
                      refine g_aload_n C dL_build_316 2 rfl ?_
                      refine g_bipush C dL_build_317 (v := 54) (by decide) ?_
                      refine g_iload_n C dL_build_319 3 rfl ?_
                      refine g_iadd C dL_build_320 ?_
                      refine g_topi (by exact nI_add 54 i) ?_
                      refine g_iconst C dL_build_321 (v := 4) (by decide) ?_
                      refine g_callSiW C dL_build_322 (c_L_pick _ _ _ _ _ _ _ _ _ (54 + i) (by omega) 4 (by decide) (by decide)) tw399 tw400 tw0 tw401 rfl ⟨by decide +kernel, by decide +kernel, rfl⟩ ⟨rfl, rfl⟩ (by rw [hR]; exact ⟨Nat.le_of_ble_eq_true rfl, Nat.le_of_ble_eq_true rfl⟩) (Nat.le_of_ble_eq_true rfl) (by omega) (fun r_33 X1 M1 K1 h_34 => ?_)
                      obtain ⟨rfl, hX1, hM1, hK1⟩ := h_34
                      subst X1 M1 K1
                      refine g_callH C dL_build_325 (c_deedf_11 _ _ _ _ _ _ _ _ _ (kndB.getD i 0) (nI (ab_f (gsa G) i)) (lo_f (gsa G) i) (hi_f (gsa G) i) (nI (pn (gsa G) (54 + i) 4)) (kch i (by omega)).1 (kch i (by omega)).2 i hB.x6 (by omega) (rule_ok (by omega))) tw407 tw408 tw0 tw409 rfl ⟨by decide +kernel, by decide +kernel, rfl⟩ ⟨rfl, rfl⟩ (by rw [hR]; exact ⟨Nat.le_of_ble_eq_true rfl, Nat.le_of_ble_eq_true rfl⟩) (Nat.le_of_ble_eq_true rfl) (by omega) (fun r_35 X1 M1 K1 h_36 => ?_)
                      obtain ⟨er_35, hX1, hM1, hK1⟩ := h_36
                      subst X1 M1 K1
                      try simp only [sa_ap, si_ap, reduceIte, Nat.reduceEqDiff] at er_35
                      refine g_pop C dL_build_328 rfl ?_
                      refine g_aload_n C dL_build_329 1 rfl ?_
                      refine gf_L_o C tw363 dL_build_330 ?_
                      refine g_bipush C dL_build_333 (v := 12) (by decide) ?_
                      refine g_iload_n C dL_build_335 3 rfl ?_
                      refine g_aload_n C dL_build_336 2 rfl ?_
                      refine g_bipush C dL_build_337 (v := 60) (by decide) ?_
                      refine g_iload_n C dL_build_339 3 rfl ?_
                      refine g_iadd C dL_build_340 ?_
                      refine g_topi (by exact nI_add 60 i) ?_
                      refine g_bipush C dL_build_341 (v := 6) (by decide) ?_
                      refine g_callSiW C dL_build_343 (c_L_pick _ _ _ _ _ _ _ _ _ (60 + i) (by omega) 6 (by decide) (by decide)) tw399 tw400 tw0 tw401 rfl ⟨by decide +kernel, by decide +kernel, rfl⟩ ⟨rfl, rfl⟩ (by rw [hR]; exact ⟨Nat.le_of_ble_eq_true rfl, Nat.le_of_ble_eq_true rfl⟩) (Nat.le_of_ble_eq_true rfl) (by omega) (fun r_37 X1 M1 K1 h_38 => ?_)
                      obtain ⟨rfl, hX1, hM1, hK1⟩ := h_38
                      subst X1 M1 K1
                      refine g_callSiW C dL_build_346 (c_ask_12 _ _ _ _ _ _ _ _ _ i (by omega) (nI (pn (gsa G) (60 + i) 6)) (i + 1) (by exact nI_1 i) (by omega) (may_ok (by omega) (pn_lt _ _ (by decide)))) tw1112 tw1113 tw0 tw1114 rfl ⟨by decide +kernel, by decide +kernel, rfl⟩ ⟨rfl, rfl⟩ (by rw [hR]; exact ⟨Nat.le_of_ble_eq_true rfl, Nat.le_of_ble_eq_true rfl⟩) (Nat.le_of_ble_eq_true rfl) (by omega) (fun r_39 X1 M1 K1 h_40 => ?_)
                      obtain ⟨er_39, hX1, hM1, hK1⟩ := h_40
                      subst X1 M1 K1
                      try simp only [sa_ap, si_ap, reduceIte, Nat.reduceEqDiff] at er_39
                      refine g_pop C dL_build_349 rfl ?_
                      refine g_aload_n C dL_build_350 1 rfl ?_
                      refine gf_L_waivedTo C tw364 dL_build_351 ?_
                      refine g_iload_n C dL_build_354 3 rfl ?_
                      refine g_sipush C dL_build_355 (v := (-9999)) (by decide) ?_
                      refine as_43 C (by omega) dL_build_358 ?_
                      refine g_iinc C dL_build_359 3 rfl (v := nI (i + 1)) (nI_1 _) (L' := [(2, .int (nI (i + 1))), (3, .int (lo_f (gsa G) i)), (0, .ref (gad G 42)), (1, .ref (gsa G 900))]) rfl (by rw [hL]; decide) ?_
                      refine g_goto C dL_build_362 (tgt := 243) (by decide) ?_
                      exact g_sub [2, 3, 0] rfl (g_to rfl rfl rfl rfl (ih (i + 1) _ _ (by omega) (hB.rule (by omega))))
                    · try simp only [sa_ap, si_ap, reduceIte, Nat.reduceEqDiff, up_us, lg_cmp_lt, lg_cmp_gt, lg_cmp_le, lg_cmp_ge] at c_284
                      refine g_aload_n C dL_build_287 2 rfl ?_
                      refine g_bipush C dL_build_288 (v := 47) (by decide) ?_
                      refine g_iconst C dL_build_290 (v := 3) (by decide) ?_
                      refine g_callSiW C dL_build_291 (c_L_pick _ _ _ _ _ _ _ _ _ (47) (by omega) 3 (by decide) (by decide)) tw399 tw400 tw0 tw401 rfl ⟨by decide +kernel, by decide +kernel, rfl⟩ ⟨rfl, rfl⟩ (by rw [hR]; exact ⟨Nat.le_of_ble_eq_true rfl, Nat.le_of_ble_eq_true rfl⟩) (Nat.le_of_ble_eq_true rfl) (by omega) (fun r_41 X1 M1 K1 h_42 => ?_)
                      obtain ⟨rfl, hX1, hM1, hK1⟩ := h_42
                      subst X1 M1 K1
                      refine g_goto C dL_build_294 (tgt := 298) (by decide) ?_
                      refine g_topi (y := nI (ab_f (gsa G) i)) (by unfold ab_f; first | (rw [if_neg (fun q => c_284 (by rw [q]; rfl))]; done) | (rw [if_neg (fun q => c_284 (by rw [q]; rfl))]; rfl) | (rw [if_pos ((nI_eq (by omega) (by decide)).mp (show nI i = nI 0 from c_284))]; done) | (rw [if_pos ((nI_eq (by omega) (by decide)).mp (show nI i = nI 0 from c_284))]; rfl)) ?_
                      refine g_iload_n C dL_build_298 0 rfl ?_
                      refine g_iload_n C dL_build_299 0 rfl ?_
                      refine g_sipush C dL_build_300 (v := 400) (by decide) ?_
                      refine g_iadd C dL_build_303 ?_
                      refine g_aload_n C dL_build_304 2 rfl ?_
                      refine g_bipush C dL_build_305 (v := 48) (by decide) ?_
                      refine g_iload_n C dL_build_307 3 rfl ?_
                      refine g_iadd C dL_build_308 ?_
                      refine g_topi (by exact nI_add 48 i) ?_
                      refine g_sipush C dL_build_309 (v := 800) (by decide) ?_
                      refine g_callSiW C dL_build_312 (c_L_pick _ _ _ _ _ _ _ _ _ (48 + i) (by omega) 800 (by decide) (by decide)) tw399 tw400 tw0 tw401 rfl ⟨by decide +kernel, by decide +kernel, rfl⟩ ⟨rfl, rfl⟩ (by rw [hR]; exact ⟨Nat.le_of_ble_eq_true rfl, Nat.le_of_ble_eq_true rfl⟩) (Nat.le_of_ble_eq_true rfl) (by omega) (fun r_43 X1 M1 K1 h_44 => ?_)
                      obtain ⟨rfl, hX1, hM1, hK1⟩ := h_44
                      subst X1 M1 K1
                      refine g_iadd C dL_build_315 ?_
                      refine g_topi (y := hi_f (gsa G) i) rfl ?_
                      refine g_aload_n C dL_build_316 2 rfl ?_
                      refine g_bipush C dL_build_317 (v := 54) (by decide) ?_
                      refine g_iload_n C dL_build_319 3 rfl ?_
                      refine g_iadd C dL_build_320 ?_
                      refine g_topi (by exact nI_add 54 i) ?_
                      refine g_iconst C dL_build_321 (v := 4) (by decide) ?_
                      refine g_callSiW C dL_build_322 (c_L_pick _ _ _ _ _ _ _ _ _ (54 + i) (by omega) 4 (by decide) (by decide)) tw399 tw400 tw0 tw401 rfl ⟨by decide +kernel, by decide +kernel, rfl⟩ ⟨rfl, rfl⟩ (by rw [hR]; exact ⟨Nat.le_of_ble_eq_true rfl, Nat.le_of_ble_eq_true rfl⟩) (Nat.le_of_ble_eq_true rfl) (by omega) (fun r_45 X1 M1 K1 h_46 => ?_)
                      obtain ⟨rfl, hX1, hM1, hK1⟩ := h_46
                      subst X1 M1 K1
                      refine g_callH C dL_build_325 (c_deedf_11 _ _ _ _ _ _ _ _ _ (kndB.getD i 0) (nI (ab_f (gsa G) i)) (lo_f (gsa G) i) (hi_f (gsa G) i) (nI (pn (gsa G) (54 + i) 4)) (kch i (by omega)).1 (kch i (by omega)).2 i hB.x6 (by omega) (rule_ok (by omega))) tw407 tw408 tw0 tw409 rfl ⟨by decide +kernel, by decide +kernel, rfl⟩ ⟨rfl, rfl⟩ (by rw [hR]; exact ⟨Nat.le_of_ble_eq_true rfl, Nat.le_of_ble_eq_true rfl⟩) (Nat.le_of_ble_eq_true rfl) (by omega) (fun r_47 X1 M1 K1 h_48 => ?_)
                      obtain ⟨er_47, hX1, hM1, hK1⟩ := h_48
                      subst X1 M1 K1
                      try simp only [sa_ap, si_ap, reduceIte, Nat.reduceEqDiff] at er_47
                      refine g_pop C dL_build_328 rfl ?_
                      refine g_aload_n C dL_build_329 1 rfl ?_
                      refine gf_L_o C tw363 dL_build_330 ?_
                      refine g_bipush C dL_build_333 (v := 12) (by decide) ?_
                      refine g_iload_n C dL_build_335 3 rfl ?_
                      refine g_aload_n C dL_build_336 2 rfl ?_
                      refine g_bipush C dL_build_337 (v := 60) (by decide) ?_
                      refine g_iload_n C dL_build_339 3 rfl ?_
                      refine g_iadd C dL_build_340 ?_
                      refine g_topi (by exact nI_add 60 i) ?_
                      refine g_bipush C dL_build_341 (v := 6) (by decide) ?_
                      refine g_callSiW C dL_build_343 (c_L_pick _ _ _ _ _ _ _ _ _ (60 + i) (by omega) 6 (by decide) (by decide)) tw399 tw400 tw0 tw401 rfl ⟨by decide +kernel, by decide +kernel, rfl⟩ ⟨rfl, rfl⟩ (by rw [hR]; exact ⟨Nat.le_of_ble_eq_true rfl, Nat.le_of_ble_eq_true rfl⟩) (Nat.le_of_ble_eq_true rfl) (by omega) (fun r_49 X1 M1 K1 h_50 => ?_)
                      obtain ⟨rfl, hX1, hM1, hK1⟩ := h_50
                      subst X1 M1 K1
                      refine g_callSiW C dL_build_346 (c_ask_12 _ _ _ _ _ _ _ _ _ i (by omega) (nI (pn (gsa G) (60 + i) 6)) (i + 1) (by exact nI_1 i) (by omega) (may_ok (by omega) (pn_lt _ _ (by decide)))) tw1112 tw1113 tw0 tw1114 rfl ⟨by decide +kernel, by decide +kernel, rfl⟩ ⟨rfl, rfl⟩ (by rw [hR]; exact ⟨Nat.le_of_ble_eq_true rfl, Nat.le_of_ble_eq_true rfl⟩) (Nat.le_of_ble_eq_true rfl) (by omega) (fun r_51 X1 M1 K1 h_52 => ?_)
                      obtain ⟨er_51, hX1, hM1, hK1⟩ := h_52
                      subst X1 M1 K1
                      try simp only [sa_ap, si_ap, reduceIte, Nat.reduceEqDiff] at er_51
                      refine g_pop C dL_build_349 rfl ?_
                      refine g_aload_n C dL_build_350 1 rfl ?_
                      refine gf_L_waivedTo C tw364 dL_build_351 ?_
                      refine g_iload_n C dL_build_354 3 rfl ?_
                      refine g_sipush C dL_build_355 (v := (-9999)) (by decide) ?_
                      refine as_43 C (by omega) dL_build_358 ?_
                      refine g_iinc C dL_build_359 3 rfl (v := nI (i + 1)) (nI_1 _) (L' := [(2, .int (nI (i + 1))), (3, .int (lo_f (gsa G) i)), (0, .ref (gad G 42)), (1, .ref (gsa G 900))]) rfl (by rw [hL]; decide) ?_
                      refine g_goto C dL_build_362 (tgt := 243) (by decide) ?_
                      exact g_sub [2, 3, 0] rfl (g_to rfl rfl rfl rfl (ih (i + 1) _ _ (by omega) (hB.rule (by omega))))
              exact g_sub [1, 2, 0] rfl (g_to rfl rfl rfl rfl (lp243 (6) 0 _ _ (by omega) hB))
            | succ n ih =>
              intro i Y z hi hB
              refine g_iload_n C dL_build_170 2 rfl ?_
              refine g_iconst C dL_build_171 (v := 3) (by decide) ?_
              refine g_icmp_ge C dL_build_172 (tgt := 241) (by decide) (fun c_172 => absurd c_172 (nI_ge (a := i) (b := 3) (by omega) (by omega))) (fun c_172 => ?_)
              refine g_aload_n C dL_build_175 0 rfl ?_
              refine gf_L_o C tw363 dL_build_176 ?_
              refine g_iconst C dL_build_179 (v := 5) (by decide) ?_
              refine g_bipush C dL_build_180 (v := (-2)) (by decide) ?_
              refine g_aload_n C dL_build_182 1 rfl ?_
              refine g_bipush C dL_build_183 (v := 29) (by decide) ?_
              refine g_iload_n C dL_build_185 2 rfl ?_
              refine g_iadd C dL_build_186 ?_
              refine g_topi (by exact nI_add 29 i) ?_
              refine g_bipush C dL_build_187 (v := 12) (by decide) ?_
              refine g_callSiW C dL_build_189 (c_L_pick _ _ _ _ _ _ _ _ _ (29 + i) (by omega) 12 (by decide) (by decide)) tw399 tw400 tw0 tw401 rfl ⟨by decide +kernel, by decide +kernel, rfl⟩ ⟨rfl, rfl⟩ (by rw [hR]; exact ⟨Nat.le_of_ble_eq_true rfl, Nat.le_of_ble_eq_true rfl⟩) (Nat.le_of_ble_eq_true rfl) (by omega) (fun r_53 X1 M1 K1 h_54 => ?_)
              obtain ⟨rfl, hX1, hM1, hK1⟩ := h_54
              subst X1 M1 K1
              refine g_isub C dL_build_192 ?_
              refine g_aload_n C dL_build_193 1 rfl ?_
              refine g_bipush C dL_build_194 (v := 32) (by decide) ?_
              refine g_iload_n C dL_build_196 2 rfl ?_
              refine g_iadd C dL_build_197 ?_
              refine g_topi (by exact nI_add 32 i) ?_
              refine g_iconst C dL_build_198 (v := 4) (by decide) ?_
              refine g_callSiW C dL_build_199 (c_L_pick _ _ _ _ _ _ _ _ _ (32 + i) (by omega) 4 (by decide) (by decide)) tw399 tw400 tw0 tw401 rfl ⟨by decide +kernel, by decide +kernel, rfl⟩ ⟨rfl, rfl⟩ (by rw [hR]; exact ⟨Nat.le_of_ble_eq_true rfl, Nat.le_of_ble_eq_true rfl⟩) (Nat.le_of_ble_eq_true rfl) (by omega) (fun r_55 X1 M1 K1 h_56 => ?_)
              obtain ⟨rfl, hX1, hM1, hK1⟩ := h_56
              subst X1 M1 K1
              refine g_aload_n C dL_build_202 1 rfl ?_
              refine g_bipush C dL_build_203 (v := 35) (by decide) ?_
              refine g_iload_n C dL_build_205 2 rfl ?_
              refine g_iadd C dL_build_206 ?_
              refine g_topi (by exact nI_add 35 i) ?_
              refine g_iconst C dL_build_207 (v := 4) (by decide) ?_
              refine g_callSiW C dL_build_208 (c_L_pick _ _ _ _ _ _ _ _ _ (35 + i) (by omega) 4 (by decide) (by decide)) tw399 tw400 tw0 tw401 rfl ⟨by decide +kernel, by decide +kernel, rfl⟩ ⟨rfl, rfl⟩ (by rw [hR]; exact ⟨Nat.le_of_ble_eq_true rfl, Nat.le_of_ble_eq_true rfl⟩) (Nat.le_of_ble_eq_true rfl) (by omega) (fun r_57 X1 M1 K1 h_58 => ?_)
              obtain ⟨rfl, hX1, hM1, hK1⟩ := h_58
              subst X1 M1 K1
              refine g_if_ne C dL_build_211 (tgt := 228) (by decide) (fun c_211 => ?_) (fun c_211 => ?_)
              · try simp only [sa_ap, si_ap, reduceIte, Nat.reduceEqDiff, up_us, lg_cmp_lt, lg_cmp_gt, lg_cmp_le, lg_cmp_ge] at c_211
                refine g_iconst C dL_build_228 (v := 0) (by decide) ?_
                refine g_iconst C dL_build_229 (v := 0) (by decide) ?_
                refine g_iconst C dL_build_230 (v := 0) (by decide) ?_
                refine g_callH C dL_build_231 (c_deedf_5 _ _ _ _ _ _ _ _ _ (-2 - nI (pn (gsa G) (29 + i) 12)) (nI (pn (gsa G) (32 + i) 4)) _ z hB.x5 (by have := hB.2.2.1.2.1; omega) hst 0 0) tw407 tw408 tw0 tw409 rfl ⟨by decide +kernel, by decide +kernel, rfl⟩ ⟨rfl, rfl⟩ (by rw [hR]; exact ⟨Nat.le_of_ble_eq_true rfl, Nat.le_of_ble_eq_true rfl⟩) (Nat.le_of_ble_eq_true rfl) (by omega) (fun r_59 X1 M1 K1 h_60 => ?_)
                rcases h_60 with ⟨c_ok231, er_59, hX1, hM1, hK1⟩ | ⟨E9, ⟨c_no231, hE9, hX1, hM1, hK1⟩, er_59⟩
                · subst X1 M1 K1
                  refine g_pop C dL_build_234 rfl ?_
                  refine g_iinc C dL_build_235 2 rfl (v := nI (i + 1)) (nI_1 _) (L' := [(2, .int (nI (i + 1))), (0, .ref (gad G 42)), (1, .ref (gsa G 900))]) rfl (by rw [hL]; decide) ?_
                  refine g_goto C dL_build_238 (tgt := 170) (by decide) ?_
                  exact g_sub [1, 2, 0] rfl (g_to rfl rfl (by omega) (by omega) (ih (i + 1) _ (z + 1) (by omega) (hB.mark (by omega) (pn_lt _ _ (by decide)) _ _)))
                · subst X1 M1 K1
                  refine g_pop C dL_build_234 rfl ?_
                  refine g_iinc C dL_build_235 2 rfl (v := nI (i + 1)) (nI_1 _) (L' := [(2, .int (nI (i + 1))), (0, .ref (gad G 42)), (1, .ref (gsa G 900))]) rfl (by rw [hL]; decide) ?_
                  refine g_goto C dL_build_238 (tgt := 170) (by decide) ?_
                  exact g_sub [1, 2, 0] rfl (g_to rfl rfl (by omega) (by omega) (ih (i + 1) _ z (by omega) (hB.noMark (by omega))))
              · try simp only [sa_ap, si_ap, reduceIte, Nat.reduceEqDiff, up_us, lg_cmp_lt, lg_cmp_gt, lg_cmp_le, lg_cmp_ge] at c_211
                refine g_iconst C dL_build_214 (v := 1) (by decide) ?_
                refine g_aload_n C dL_build_215 1 rfl ?_
                refine g_bipush C dL_build_216 (v := 38) (by decide) ?_
                refine g_iload_n C dL_build_218 2 rfl ?_
                refine g_iadd C dL_build_219 ?_
                refine g_topi (by exact nI_add 38 i) ?_
                refine g_iconst C dL_build_220 (v := 5) (by decide) ?_
                refine g_callSiW C dL_build_221 (c_L_pick _ _ _ _ _ _ _ _ _ (38 + i) (by omega) 5 (by decide) (by decide)) tw399 tw400 tw0 tw401 rfl ⟨by decide +kernel, by decide +kernel, rfl⟩ ⟨rfl, rfl⟩ (by rw [hR]; exact ⟨Nat.le_of_ble_eq_true rfl, Nat.le_of_ble_eq_true rfl⟩) (Nat.le_of_ble_eq_true rfl) (by omega) (fun r_61 X1 M1 K1 h_62 => ?_)
                obtain ⟨rfl, hX1, hM1, hK1⟩ := h_62
                subst X1 M1 K1
                refine g_ishl C dL_build_224 ?_
                refine g_goto C dL_build_225 (tgt := 229) (by decide) ?_
                refine g_iconst C dL_build_229 (v := 0) (by decide) ?_
                refine g_iconst C dL_build_230 (v := 0) (by decide) ?_
                refine g_callH C dL_build_231 (c_deedf_5 _ _ _ _ _ _ _ _ _ (-2 - nI (pn (gsa G) (29 + i) 12)) (nI (pn (gsa G) (32 + i) 4)) _ z hB.x5 (by have := hB.2.2.1.2.1; omega) hst 0 0) tw407 tw408 tw0 tw409 rfl ⟨by decide +kernel, by decide +kernel, rfl⟩ ⟨rfl, rfl⟩ (by rw [hR]; exact ⟨Nat.le_of_ble_eq_true rfl, Nat.le_of_ble_eq_true rfl⟩) (Nat.le_of_ble_eq_true rfl) (by omega) (fun r_63 X1 M1 K1 h_64 => ?_)
                rcases h_64 with ⟨c_ok231, er_63, hX1, hM1, hK1⟩ | ⟨E9, ⟨c_no231, hE9, hX1, hM1, hK1⟩, er_63⟩
                · subst X1 M1 K1
                  refine g_pop C dL_build_234 rfl ?_
                  refine g_iinc C dL_build_235 2 rfl (v := nI (i + 1)) (nI_1 _) (L' := [(2, .int (nI (i + 1))), (0, .ref (gad G 42)), (1, .ref (gsa G 900))]) rfl (by rw [hL]; decide) ?_
                  refine g_goto C dL_build_238 (tgt := 170) (by decide) ?_
                  exact g_sub [1, 2, 0] rfl (g_to rfl rfl (by omega) (by omega) (ih (i + 1) _ (z + 1) (by omega) (hB.mark (by omega) (pn_lt _ _ (by decide)) _ _)))
                · subst X1 M1 K1
                  refine g_pop C dL_build_234 rfl ?_
                  refine g_iinc C dL_build_235 2 rfl (v := nI (i + 1)) (nI_1 _) (L' := [(2, .int (nI (i + 1))), (0, .ref (gad G 42)), (1, .ref (gsa G 900))]) rfl (by rw [hL]; decide) ?_
                  refine g_goto C dL_build_238 (tgt := 170) (by decide) ?_
                  exact g_sub [1, 2, 0] rfl (g_to rfl rfl (by omega) (by omega) (ih (i + 1) _ z (by omega) (hB.noMark (by omega))))
          exact g_sub [1, 2, 0] rfl (g_to rfl rfl rfl rfl (lp170 (3) 0 _ _ (by omega) hB))
        | succ n ih =>
          intro i Y hi hB
          refine g_iload_n C dL_build_89 2 rfl ?_
          refine g_iconst C dL_build_90 (v := 5) (by decide) ?_
          refine g_icmp_ge C dL_build_91 (tgt := 168) (by decide) (fun c_91 => absurd c_91 (nI_ge (a := i) (b := 5) (by omega) (by omega))) (fun c_91 => ?_)
          refine g_aload_n C dL_build_94 0 rfl ?_
          refine gf_L_o C tw363 dL_build_95 ?_
          refine g_iconst C dL_build_98 (v := 3) (by decide) ?_
          refine g_iconst C dL_build_99 (v := (-1)) (by decide) ?_
          refine g_aload_n C dL_build_100 1 rfl ?_
          refine g_bipush C dL_build_101 (v := 9) (by decide) ?_
          refine g_iload_n C dL_build_103 2 rfl ?_
          refine g_iadd C dL_build_104 ?_
          refine g_topi (by exact nI_add 9 i) ?_
          refine g_bipush C dL_build_105 (v := 16) (by decide) ?_
          refine g_callSiW C dL_build_107 (c_L_pick _ _ _ _ _ _ _ _ _ (9 + i) (by omega) 16 (by decide) (by decide)) tw399 tw400 tw0 tw401 rfl ⟨by decide +kernel, by decide +kernel, rfl⟩ ⟨rfl, rfl⟩ (by rw [hR]; exact ⟨Nat.le_of_ble_eq_true rfl, Nat.le_of_ble_eq_true rfl⟩) (Nat.le_of_ble_eq_true rfl) (by omega) (fun r_65 X1 M1 K1 h_66 => ?_)
          obtain ⟨rfl, hX1, hM1, hK1⟩ := h_66
          subst X1 M1 K1
          refine g_isub C dL_build_110 ?_
          refine g_iconst C dL_build_111 (v := 1) (by decide) ?_
          refine g_aload_n C dL_build_112 1 rfl ?_
          refine g_bipush C dL_build_113 (v := 14) (by decide) ?_
          refine g_iload_n C dL_build_115 2 rfl ?_
          refine g_iadd C dL_build_116 ?_
          refine g_topi (by exact nI_add 14 i) ?_
          refine g_bipush C dL_build_117 (v := 6) (by decide) ?_
          refine g_callSiW C dL_build_119 (c_L_pick _ _ _ _ _ _ _ _ _ (14 + i) (by omega) 6 (by decide) (by decide)) tw399 tw400 tw0 tw401 rfl ⟨by decide +kernel, by decide +kernel, rfl⟩ ⟨rfl, rfl⟩ (by rw [hR]; exact ⟨Nat.le_of_ble_eq_true rfl, Nat.le_of_ble_eq_true rfl⟩) (Nat.le_of_ble_eq_true rfl) (by omega) (fun r_67 X1 M1 K1 h_68 => ?_)
          obtain ⟨rfl, hX1, hM1, hK1⟩ := h_68
          subst X1 M1 K1
          refine g_iadd C dL_build_122 ?_
          refine g_callSiW C dL_build_123 (c_ask_3 _ _ _ _ _ _ _ _ _ (-1 - nI (pn (gsa G) (9 + i) 16)) (1 + nI (pn (gsa G) (14 + i) 6)) i hB.x8 (by omega) (step_ok (by omega) (pn_lt _ _ (by decide)) (pn_lt _ _ (by decide)) hB.s45)) tw1112 tw1113 tw0 tw1114 rfl ⟨by decide +kernel, by decide +kernel, rfl⟩ ⟨rfl, rfl⟩ (by rw [hR]; exact ⟨Nat.le_of_ble_eq_true rfl, Nat.le_of_ble_eq_true rfl⟩) (Nat.le_of_ble_eq_true rfl) (by omega) (fun r_69 X1 M1 K1 h_70 => ?_)
          obtain ⟨er_69, hX1, hM1, hK1⟩ := h_70
          subst X1 M1 K1
          try simp only [sa_ap, si_ap, reduceIte, Nat.reduceEqDiff] at er_69
          refine g_pop C dL_build_126 rfl ?_
          refine g_iload_n C dL_build_127 2 rfl ?_
          refine g_if_le C dL_build_128 (tgt := 162) (by decide) (fun c_128 => ?_) (fun c_128 => ?_)
          · try simp only [sa_ap, si_ap, reduceIte, Nat.reduceEqDiff, up_us, lg_cmp_lt, lg_cmp_gt, lg_cmp_le, lg_cmp_ge] at c_128
            have hz0 : ¬ 0 < i := fun q => nI_nle q (by omega) c_128
            refine g_iinc C dL_build_162 2 rfl (v := nI (i + 1)) (nI_1 _) (L' := [(2, .int (nI (i + 1))), (0, .ref (gad G 42)), (1, .ref (gsa G 900))]) rfl (by rw [hL]; decide) ?_
            refine g_goto C dL_build_165 (tgt := 89) (by decide) ?_
            exact g_sub [1, 2, 0] rfl (g_to rfl rfl rfl rfl (ih (i + 1) _ (by omega) (hB.step _ _ (fun q => hz0 q.1))))
          · try simp only [sa_ap, si_ap, reduceIte, Nat.reduceEqDiff, up_us, lg_cmp_lt, lg_cmp_gt, lg_cmp_le, lg_cmp_ge] at c_128
            have hi0 : 0 < i := Nat.pos_of_ne_zero (fun q => c_128 (by rw [q]; decide))
            refine g_aload_n C dL_build_131 1 rfl ?_
            refine g_bipush C dL_build_132 (v := 19) (by decide) ?_
            refine g_iload_n C dL_build_134 2 rfl ?_
            refine g_iadd C dL_build_135 ?_
            refine g_topi (by exact nI_add 19 i) ?_
            refine g_iconst C dL_build_136 (v := 2) (by decide) ?_
            refine g_callSiW C dL_build_137 (c_L_pick _ _ _ _ _ _ _ _ _ (19 + i) (by omega) 2 (by decide) (by decide)) tw399 tw400 tw0 tw401 rfl ⟨by decide +kernel, by decide +kernel, rfl⟩ ⟨rfl, rfl⟩ (by rw [hR]; exact ⟨Nat.le_of_ble_eq_true rfl, Nat.le_of_ble_eq_true rfl⟩) (Nat.le_of_ble_eq_true rfl) (by omega) (fun r_71 X1 M1 K1 h_72 => ?_)
            obtain ⟨rfl, hX1, hM1, hK1⟩ := h_72
            subst X1 M1 K1
            refine g_if_ne C dL_build_140 (tgt := 162) (by decide) (fun c_140 => ?_) (fun c_140 => ?_)
            · try simp only [sa_ap, si_ap, reduceIte, Nat.reduceEqDiff, up_us, lg_cmp_lt, lg_cmp_gt, lg_cmp_le, lg_cmp_ge] at c_140
              refine g_iinc C dL_build_162 2 rfl (v := nI (i + 1)) (nI_1 _) (L' := [(2, .int (nI (i + 1))), (0, .ref (gad G 42)), (1, .ref (gsa G 900))]) rfl (by rw [hL]; decide) ?_
              refine g_goto C dL_build_165 (tgt := 89) (by decide) ?_
              exact g_sub [1, 2, 0] rfl (g_to rfl rfl rfl rfl (ih (i + 1) _ (by omega) (hB.step _ _ (fun q => c_140 (by rw [q.2]; rfl)))))
            · try simp only [sa_ap, si_ap, reduceIte, Nat.reduceEqDiff, up_us, lg_cmp_lt, lg_cmp_gt, lg_cmp_le, lg_cmp_ge] at c_140
              refine g_aload_n C dL_build_143 0 rfl ?_
              refine gf_L_o C tw363 dL_build_144 ?_
              refine g_iconst C dL_build_147 (v := 4) (by decide) ?_
              refine g_iload_n C dL_build_148 2 rfl ?_
              refine g_aload_n C dL_build_149 1 rfl ?_
              refine g_bipush C dL_build_150 (v := 24) (by decide) ?_
              refine g_iload_n C dL_build_152 2 rfl ?_
              refine g_iadd C dL_build_153 ?_
              refine g_topi (by exact nI_add 24 i) ?_
              refine g_iload_n C dL_build_154 2 rfl ?_
              refine g_callSiW C dL_build_155 (c_L_pick _ _ _ _ _ _ _ _ _ (24 + i) (by omega) i hi0 (by omega)) tw399 tw400 tw0 tw401 rfl ⟨by decide +kernel, by decide +kernel, rfl⟩ ⟨rfl, rfl⟩ (by rw [hR]; exact ⟨Nat.le_of_ble_eq_true rfl, Nat.le_of_ble_eq_true rfl⟩) (Nat.le_of_ble_eq_true rfl) (by omega) (fun r_73 X1 M1 K1 h_74 => ?_)
              obtain ⟨rfl, hX1, hM1, hK1⟩ := h_74
              subst X1 M1 K1
              refine g_callSiW C dL_build_158 (c_ask_4 _ _ _ _ _ _ _ _ _ i (by omega) (nI (pn (gsa G) (24 + i) i)) (i + 1) (by exact nI_1 i) (by omega) (after_ok (by omega) (pn_lt _ _ hi0) (by exact hB.s45))) tw1112 tw1113 tw0 tw1114 rfl ⟨by decide +kernel, by decide +kernel, rfl⟩ ⟨rfl, rfl⟩ (by rw [hR]; exact ⟨Nat.le_of_ble_eq_true rfl, Nat.le_of_ble_eq_true rfl⟩) (Nat.le_of_ble_eq_true rfl) (by omega) (fun r_75 X1 M1 K1 h_76 => ?_)
              obtain ⟨er_75, hX1, hM1, hK1⟩ := h_76
              subst X1 M1 K1
              try simp only [sa_ap, si_ap, reduceIte, Nat.reduceEqDiff] at er_75
              refine g_pop C dL_build_161 rfl ?_
              refine g_iinc C dL_build_162 2 rfl (v := nI (i + 1)) (nI_1 _) (L' := [(2, .int (nI (i + 1))), (0, .ref (gad G 42)), (1, .ref (gsa G 900))]) rfl (by rw [hL]; decide) ?_
              refine g_goto C dL_build_165 (tgt := 89) (by decide) ?_
              exact g_sub [1, 2, 0] rfl (g_to rfl rfl rfl rfl (ih (i + 1) _ (by omega) (hB.stepA _ _)))
      exact g_sub [1, 2, 0] rfl (g_to rfl rfl rfl rfl (lp89 (5) 0 _ (by omega) hB))
    | succ n ih =>
      intro i Y N hi hB
      refine g_iload_n C dL_build_2 2 rfl ?_
      refine g_iconst C dL_build_3 (v := 3) (by decide) ?_
      refine g_icmp_ge C dL_build_4 (tgt := 87) (by decide) (fun c_4 => absurd c_4 (nI_ge (a := i) (b := 3) (by omega) (by omega))) (fun c_4 => ?_)
      refine g_aload_n C dL_build_7 0 rfl ?_
      refine gf_L_rooms C tw365 dL_build_8 ?_
      refine g_iload_n C dL_build_11 2 rfl ?_
      refine g_aload_n C dL_build_12 1 rfl ?_
      refine g_iload_n C dL_build_13 2 rfl ?_
      refine g_sipush C dL_build_14 (v := 400) (by decide) ?_
      refine g_callSiW C dL_build_17 (c_L_pick _ _ _ _ _ _ _ _ _ (i) (by omega) 400 (by decide) (by decide)) tw399 tw400 tw0 tw401 rfl ⟨by decide +kernel, by decide +kernel, rfl⟩ ⟨rfl, rfl⟩ (by rw [hR]; exact ⟨Nat.le_of_ble_eq_true rfl, Nat.le_of_ble_eq_true rfl⟩) (Nat.le_of_ble_eq_true rfl) (by omega) (fun r_77 X1 M1 K1 h_78 => ?_)
      obtain ⟨rfl, hX1, hM1, hK1⟩ := h_78
      subst X1 M1 K1
      refine as_44 C (by omega) dL_build_20 ?_
      refine g_aload_n C dL_build_21 0 rfl ?_
      refine gf_L_rates C tw366 dL_build_22 ?_
      refine g_iload_n C dL_build_25 2 rfl ?_
      refine g_aload_n C dL_build_26 1 rfl ?_
      refine g_iconst C dL_build_27 (v := 3) (by decide) ?_
      refine g_iload_n C dL_build_28 2 rfl ?_
      refine g_iadd C dL_build_29 ?_
      refine g_topi (by exact nI_add 3 i) ?_
      refine g_bipush C dL_build_30 (v := 30) (by decide) ?_
      refine g_callSiW C dL_build_32 (c_L_pick _ _ _ _ _ _ _ _ _ (3 + i) (by omega) 30 (by decide) (by decide)) tw399 tw400 tw0 tw401 rfl ⟨by decide +kernel, by decide +kernel, rfl⟩ ⟨rfl, rfl⟩ (by rw [hR]; exact ⟨Nat.le_of_ble_eq_true rfl, Nat.le_of_ble_eq_true rfl⟩) (Nat.le_of_ble_eq_true rfl) (by omega) (fun r_79 X1 M1 K1 h_80 => ?_)
      obtain ⟨rfl, hX1, hM1, hK1⟩ := h_80
      subst X1 M1 K1
      refine as_45 C (by omega) dL_build_35 ?_
      refine g_aload_n C dL_build_36 0 rfl ?_
      refine gf_L_boils C tw367 dL_build_37 ?_
      refine g_iload_n C dL_build_40 2 rfl ?_
      refine g_aload_n C dL_build_41 1 rfl ?_
      refine g_bipush C dL_build_42 (v := 6) (by decide) ?_
      refine g_iload_n C dL_build_44 2 rfl ?_
      refine g_iadd C dL_build_45 ?_
      refine g_topi (by exact nI_add 6 i) ?_
      refine g_bipush C dL_build_46 (v := 40) (by decide) ?_
      refine g_callSiW C dL_build_48 (c_L_pick _ _ _ _ _ _ _ _ _ (6 + i) (by omega) 40 (by decide) (by decide)) tw399 tw400 tw0 tw401 rfl ⟨by decide +kernel, by decide +kernel, rfl⟩ ⟨rfl, rfl⟩ (by rw [hR]; exact ⟨Nat.le_of_ble_eq_true rfl, Nat.le_of_ble_eq_true rfl⟩) (Nat.le_of_ble_eq_true rfl) (by omega) (fun r_81 X1 M1 K1 h_82 => ?_)
      obtain ⟨rfl, hX1, hM1, hK1⟩ := h_82
      subst X1 M1 K1
      refine as_46 C (by omega) dL_build_51 ?_
      refine g_aload_n C dL_build_52 0 rfl ?_
      refine gf_L_o C tw363 dL_build_53 ?_
      refine g_iconst C dL_build_56 (v := 0) (by decide) ?_
      refine g_iload_n C dL_build_57 2 rfl ?_
      refine g_aload_n C dL_build_58 0 rfl ?_
      refine gf_L_rooms C tw365 dL_build_59 ?_
      refine g_iload_n C dL_build_62 2 rfl ?_
      refine al_44 C (by omega) dL_build_63 ?_
      refine g_topi (y := nI (pn (gsa G) (i) 400)) (by simp [sa_ap, up_us]) ?_
      refine g_aload_n C dL_build_64 0 rfl ?_
      refine gf_L_rates C tw366 dL_build_65 ?_
      refine g_iload_n C dL_build_68 2 rfl ?_
      refine al_45 C (by omega) dL_build_69 ?_
      refine g_topi (y := nI (pn (gsa G) (3 + i) 30)) (by simp [sa_ap, up_us]) ?_
      refine g_aload_n C dL_build_70 0 rfl ?_
      refine gf_L_boils C tw367 dL_build_71 ?_
      refine g_iload_n C dL_build_74 2 rfl ?_
      refine al_46 C (by omega) dL_build_75 ?_
      refine g_topi (y := nI (pn (gsa G) (6 + i) 40)) (by simp [sa_ap, up_us]) ?_
      refine g_iconst C dL_build_76 (v := 0) (by decide) ?_
      refine g_callH C dL_build_77 (c_deedf_0 _ _ _ _ _ _ _ _ _ i (by omega) (nI (pn (gsa G) (i) 400)) (nI (pn (gsa G) (3 + i) 30)) (nI (pn (gsa G) (6 + i) 40)) (tank_ok (by omega) (pn_lt _ _ (by decide)) (pn_lt _ _ (by decide)) (pn_lt _ _ (by decide))) 0) tw407 tw408 tw0 tw409 rfl ⟨by decide +kernel, by decide +kernel, rfl⟩ ⟨rfl, rfl⟩ (by rw [hR]; exact ⟨Nat.le_of_ble_eq_true rfl, Nat.le_of_ble_eq_true rfl⟩) (Nat.le_of_ble_eq_true rfl) (by omega) (fun r_83 X1 M1 K1 h_84 => ?_)
      obtain ⟨er_83, hX1, hM1, hK1⟩ := h_84
      subst X1 M1 K1
      try simp only [sa_ap, si_ap, reduceIte, Nat.reduceEqDiff] at er_83
      refine g_pop C dL_build_80 rfl ?_
      refine g_iinc C dL_build_81 2 rfl (v := nI (i + 1)) (nI_1 _) (L' := [(2, .int (nI (i + 1))), (0, .ref (gad G 42)), (1, .ref (gsa G 900))]) rfl (by rw [hL]; decide) ?_
      refine g_goto C dL_build_84 (tgt := 2) (by decide) ?_
      exact g_sub [1, 2, 0] rfl (g_to rfl rfl rfl rfl (ih (i + 1) _ _ (by omega) (hB.tank (by omega))))
  exact g_sub [1, 2, 0] rfl (g_to rfl rfl rfl rfl (lp2 (3) 0 _ _ (by omega) hB0))

