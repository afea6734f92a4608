/-! the law, call by call -/
set_option maxHeartbeats 1000000 in
set_option maxRecDepth 100000 in
theorem lc_setTank {G : MC} {b Ln c : Nat} {xs : Nat → Int32} {v z z5 z8 zs : Nat} {X M : XF} {K : KF} {k n : Nat} (E : LawG G b Ln xs) (hcL : 6 * c + 6 ≤ Ln) (I : Inv c v z z5 z8 zs X M K) (hm : rmO c K k n) (kk : LwS G b c) : GH G (WX G X M K) [(0, .ref b), (1, .ref (gad G 0)), (2, .ref (gad G 42)), (3, .ref (gad G 74)), (4, .ref (gad G 75)), (5, .int (nI (6 * c)))] k n 216 [] := by
  obtain ⟨C, hst, hN, hX, hb, hbA, hLn, hR, hL⟩ := E
  have R := I.rel
  have hc5 : c < 512 := by omega
  have hnum := I.num (by omega)
  have hlen := I.len (by omega)
  obtain ⟨hm1, hm2⟩ := hm
  have hk2 := I.k2
  have hzk := I.zk
  have hsN := I.sN
  obtain ⟨p1, e1⟩ : ∃ p, xs (6 * c + 1) = p := ⟨_, rfl⟩
  obtain ⟨p2, e2⟩ : ∃ p, xs (6 * c + 2) = p := ⟨_, rfl⟩
  obtain ⟨p3, e3⟩ : ∃ p, xs (6 * c + 3) = p := ⟨_, rfl⟩
  obtain ⟨p4, e4⟩ : ∃ p, xs (6 * c + 4) = p := ⟨_, rfl⟩
  have hcd : xk_tank p1 p2 p3 p4 = xs_tank p1 p2 p3 p4 := by exact cd_tank _ _ _ _
  by_cases hc : xk_tank p1 p2 p3 p4 = 0
  · have hx : xs_tank p1 p2 p3 p4 = 0 := hcd.symm.trans hc
    refine g_aload_n C dL_law_216 1 rfl ?_
    refine g_aload_n C dL_law_217 0 rfl ?_
    refine g_iload C dL_law_218 5 rfl ?_
    refine g_iconst C dL_law_220 (v := 1) (by decide) ?_
    refine g_iadd C dL_law_221 ?_
    refine g_topi (y := nI (6 * c + 1)) (nI_add (6 * c) 1) ?_
    refine g_scr C hX hb hbA (j := 6 * c + 1) (by omega) (by omega) dL_law_222 ?_
    refine g_topi e1 ?_
    refine g_aload_n C dL_law_223 0 rfl ?_
    refine g_iload C dL_law_224 5 rfl ?_
    refine g_iconst C dL_law_226 (v := 2) (by decide) ?_
    refine g_iadd C dL_law_227 ?_
    refine g_topi (y := nI (6 * c + 2)) (nI_add (6 * c) 2) ?_
    refine g_scr C hX hb hbA (j := 6 * c + 2) (by omega) (by omega) dL_law_228 ?_
    refine g_topi e2 ?_
    refine g_aload_n C dL_law_229 0 rfl ?_
    refine g_iload C dL_law_230 5 rfl ?_
    refine g_iconst C dL_law_232 (v := 3) (by decide) ?_
    refine g_iadd C dL_law_233 ?_
    refine g_topi (y := nI (6 * c + 3)) (nI_add (6 * c) 3) ?_
    refine g_scr C hX hb hbA (j := 6 * c + 3) (by omega) (by omega) dL_law_234 ?_
    refine g_topi e3 ?_
    refine g_aload_n C dL_law_235 0 rfl ?_
    refine g_iload C dL_law_236 5 rfl ?_
    refine g_iconst C dL_law_238 (v := 4) (by decide) ?_
    refine g_iadd C dL_law_239 ?_
    refine g_topi (y := nI (6 * c + 4)) (nI_add (6 * c) 4) ?_
    refine g_scr C hX hb hbA (j := 6 * c + 4) (by omega) (by omega) dL_law_240 ?_
    refine g_topi e4 ?_
    refine g_aload_n C dL_law_241 3 rfl ?_
    refine g_callH C hN (c_L_setTank _ _ _ _ _ _ _ _ _ _ _ _ _ hst) tw588 tw589 tw0 tw590 rfl ⟨by decide +kernel, by decide +kernel, rfl⟩ ⟨rfl, rfl⟩ (by rw [hR]; exact ⟨Nat.le_of_ble_eq_true rfl, Nat.le_of_ble_eq_true rfl⟩) (Nat.le_of_ble_eq_true rfl) dL_law_242 (by rw [hR]; exact ⟨by show k + 1 ≤ 604801; omega, by show n + 6 ≤ 7193636; omega⟩) (fun r1 X1 M1 K1 h1_ => ?_)
    obtain ⟨-, rfl, hX1, hM1, hK1⟩ := h1_.resolve_right (fun q => q.1 hc)
    subst X1 M1 K1
    refine g_istore C dL_law_245 (L' := [(6, .int (0)), (0, .ref b), (1, .ref (gad G 0)), (2, .ref (gad G 42)), (3, .ref (gad G 74)), (4, .ref (gad G 75)), (5, .int (nI (6 * c)))]) rfl (by rw [hL]; decide) ?_
    refine g_aload_n C dL_law_247 3 rfl ?_
    refine g_aload_n C dL_law_248 1 rfl ?_
    refine g_iload C dL_law_249 6 rfl ?_
    refine g_iconst C dL_law_251 (v := 1) (by decide) ?_
    refine g_iadd C dL_law_252 ?_
    refine g_topi (y := nI (6 * c + 1)) (nI_add (6 * c) 1) ?_
    refine g_scr C hX hb hbA (j := 6 * c + 1) (by omega) (by omega) dL_law_253 ?_
    refine g_topi e1 ?_
    refine g_aload_n C dL_law_254 1 rfl ?_
    refine g_iload C dL_law_255 6 rfl ?_
    refine g_iconst C dL_law_257 (v := 2) (by decide) ?_
    refine g_iadd C dL_law_258 ?_
    refine g_topi (y := nI (6 * c + 2)) (nI_add (6 * c) 2) ?_
    refine g_scr C hX hb hbA (j := 6 * c + 2) (by omega) (by omega) dL_law_259 ?_
    refine g_topi e2 ?_
    refine g_aload_n C dL_law_260 1 rfl ?_
    refine g_iload C dL_law_261 6 rfl ?_
    refine g_iconst C dL_law_263 (v := 3) (by decide) ?_
    refine g_iadd C dL_law_264 ?_
    refine g_topi (y := nI (6 * c + 3)) (nI_add (6 * c) 3) ?_
    refine g_scr C hX hb hbA (j := 6 * c + 3) (by omega) (by omega) dL_law_265 ?_
    refine g_topi e3 ?_
    refine g_aload_n C dL_law_266 1 rfl ?_
    refine g_iload C dL_law_267 6 rfl ?_
    refine g_iconst C dL_law_269 (v := 4) (by decide) ?_
    refine g_iadd C dL_law_270 ?_
    refine g_topi (y := nI (6 * c + 4)) (nI_add (6 * c) 4) ?_
    refine g_scr C hX hb hbA (j := 6 * c + 4) (by omega) (by omega) dL_law_271 ?_
    refine g_topi e4 ?_
    refine g_callViW C dL_law_272 (c_X11_setTank _ _ _ _ _ _ _ _ _ _ _ _ _) tw1398 tw1399 tw1400 tw16 tw1401 (rv_X11 C) rfl ⟨by decide +kernel, by decide +kernel, rfl⟩ ⟨rfl, rfl⟩ (by rw [hR]; exact ⟨Nat.le_of_ble_eq_true rfl, Nat.le_of_ble_eq_true rfl⟩) (Nat.le_of_ble_eq_true rfl) (by rw [hR]; exact ⟨by show k + 1 + 0 ≤ 604801; omega, by show n + 6 + 0 ≤ 7193636; omega⟩) (fun r2 X1 M1 K1 h2_ => ?_)
    obtain ⟨er, hX1, hM1, hK1⟩ := h2_
    rw [if_pos hx] at er hM1
    subst X1 M1 K1
    have heq : (tk_min (X 5 p1.toNatClampNeg) p2 : Int32) = r2 := ((o_tank R p1 p2 p3 p4 hc).1).trans er.symm
    refine g_istore C dL_law_275 (L' := [(7, .int (r2)), (6, .int (0)), (0, .ref b), (1, .ref (gad G 0)), (2, .ref (gad G 42)), (3, .ref (gad G 74)), (4, .ref (gad G 75)), (5, .int (nI (6 * c)))]) rfl (by rw [hL]; decide) ?_
    refine g_aload_n C dL_law_277 4 rfl ?_
    refine g_callViW C dL_law_278 (c_X11_thrown _ _ _ _ _ _ _ _ _) tw1394 tw1395 tw1396 tw16 tw1397 (rv_X11 C) rfl ⟨by decide +kernel, by decide +kernel, rfl⟩ ⟨rfl, rfl⟩ (by rw [hR]; exact ⟨Nat.le_of_ble_eq_true rfl, Nat.le_of_ble_eq_true rfl⟩) (Nat.le_of_ble_eq_true rfl) (by rw [hR]; exact ⟨by show k + 1 + 0 + 0 ≤ 604801; omega, by show n + 6 + 0 + 0 ≤ 7193636; omega⟩) (fun r3 X1 M1 K1 h3 => ?_)
    obtain ⟨er3, hX1, hM1, hK1⟩ := h3
    subst X1 M1 K1
    have e3 : r3 = 0 := er3.trans (by rfl)
    refine g_iload C dL_law_281 1 rfl ?_
    refine g_icmp_eq C dL_law_283 (tgt := 288) (by decide) (fun q => ?_) (fun q => absurd e3 q)
    refine g_iload C dL_law_288 1 rfl ?_
    refine g_if_ne C dL_law_290 (tgt := 305) (by decide) (fun q => absurd q (by decide)) (fun q => ?_)
    refine g_aload_n C dL_law_293 5 rfl ?_
    refine g_iconst C dL_law_294 (v := 0) (by decide) ?_
    refine al_74 C dL_law_295 ?_
    refine g_topl (y := (tk_min (X 5 p1.toNatClampNeg) p2 : Int32).toInt64) (kO_at _ _) ?_
    refine g_iload C dL_law_296 0 rfl ?_
    refine g_i2l C dL_law_298 ?_
    refine g_lcmpe C (by rw [heq]) dL_law_299 ?_
    refine g_if_eq C dL_law_300 (tgt := 305) (by decide) (fun q => ?_) (fun q => absurd (by decide) q)
    refine g_goto C dL_law_305 (tgt := 2415) (by decide) ?_
    exact g_sub [2, 3, 4, 5, 6, 7] rfl (kk _ _ _ _ _ _ _ _ _ _ (I.stay _ (o_tank R p1 p2 p3 p4 hc).2 rfl rfl rfl) ⟨by show k + 1 + 0 + 0 ≤ 100 + 2 * (c + 1) + (K.2.1 4 + K.2.1 5); omega, by show n + 6 + 0 + 0 ≤ 2000 + 520 * (c + 1) + (K.2.1 6 + K.2.1 7); omega⟩)
  · have hx : ¬ xs_tank p1 p2 p3 p4 = 0 := fun q => hc (hcd.trans q)
    refine g_aload_n C dL_law_216 1 rfl ?_
    refine g_aload_n C dL_law_217 0 rfl ?_
    refine g_iload C dL_law_218 5 rfl ?_
    refine g_iconst C dL_law_220 (v := 1) (by decide) ?_
    refine g_iadd C dL_law_221 ?_
    refine g_topi (y := nI (6 * c + 1)) (nI_add (6 * c) 1) ?_
    refine g_scr C hX hb hbA (j := 6 * c + 1) (by omega) (by omega) dL_law_222 ?_
    refine g_topi e1 ?_
    refine g_aload_n C dL_law_223 0 rfl ?_
    refine g_iload C dL_law_224 5 rfl ?_
    refine g_iconst C dL_law_226 (v := 2) (by decide) ?_
    refine g_iadd C dL_law_227 ?_
    refine g_topi (y := nI (6 * c + 2)) (nI_add (6 * c) 2) ?_
    refine g_scr C hX hb hbA (j := 6 * c + 2) (by omega) (by omega) dL_law_228 ?_
    refine g_topi e2 ?_
    refine g_aload_n C dL_law_229 0 rfl ?_
    refine g_iload C dL_law_230 5 rfl ?_
    refine g_iconst C dL_law_232 (v := 3) (by decide) ?_
    refine g_iadd C dL_law_233 ?_
    refine g_topi (y := nI (6 * c + 3)) (nI_add (6 * c) 3) ?_
    refine g_scr C hX hb hbA (j := 6 * c + 3) (by omega) (by omega) dL_law_234 ?_
    refine g_topi e3 ?_
    refine g_aload_n C dL_law_235 0 rfl ?_
    refine g_iload C dL_law_236 5 rfl ?_
    refine g_iconst C dL_law_238 (v := 4) (by decide) ?_
    refine g_iadd C dL_law_239 ?_
    refine g_topi (y := nI (6 * c + 4)) (nI_add (6 * c) 4) ?_
    refine g_scr C hX hb hbA (j := 6 * c + 4) (by omega) (by omega) dL_law_240 ?_
    refine g_topi e4 ?_
    refine g_aload_n C dL_law_241 3 rfl ?_
    refine g_callH C hN (c_L_setTank _ _ _ _ _ _ _ _ _ _ _ _ _ hst) tw588 tw589 tw0 tw590 rfl ⟨by decide +kernel, by decide +kernel, rfl⟩ ⟨rfl, rfl⟩ (by rw [hR]; exact ⟨Nat.le_of_ble_eq_true rfl, Nat.le_of_ble_eq_true rfl⟩) (Nat.le_of_ble_eq_true rfl) dL_law_242 (by rw [hR]; exact ⟨by show k + 1 ≤ 604801; omega, by show n + 6 ≤ 7193636; omega⟩) (fun r1 X1 M1 K1 h1_ => ?_)
    obtain ⟨-, hr1, hX1, hM1, hK1⟩ := h1_.resolve_left (fun q => hc q.1)
    subst X1 M1 K1
    refine g_istore C dL_law_245 (L' := [(6, .int (r1)), (0, .ref b), (1, .ref (gad G 0)), (2, .ref (gad G 42)), (3, .ref (gad G 74)), (4, .ref (gad G 75)), (5, .int (nI (6 * c)))]) rfl (by rw [hL]; decide) ?_
    refine g_aload_n C dL_law_247 3 rfl ?_
    refine g_aload_n C dL_law_248 1 rfl ?_
    refine g_iload C dL_law_249 6 rfl ?_
    refine g_iconst C dL_law_251 (v := 1) (by decide) ?_
    refine g_iadd C dL_law_252 ?_
    refine g_topi (y := nI (6 * c + 1)) (nI_add (6 * c) 1) ?_
    refine g_scr C hX hb hbA (j := 6 * c + 1) (by omega) (by omega) dL_law_253 ?_
    refine g_topi e1 ?_
    refine g_aload_n C dL_law_254 1 rfl ?_
    refine g_iload C dL_law_255 6 rfl ?_
    refine g_iconst C dL_law_257 (v := 2) (by decide) ?_
    refine g_iadd C dL_law_258 ?_
    refine g_topi (y := nI (6 * c + 2)) (nI_add (6 * c) 2) ?_
    refine g_scr C hX hb hbA (j := 6 * c + 2) (by omega) (by omega) dL_law_259 ?_
    refine g_topi e2 ?_
    refine g_aload_n C dL_law_260 1 rfl ?_
    refine g_iload C dL_law_261 6 rfl ?_
    refine g_iconst C dL_law_263 (v := 3) (by decide) ?_
    refine g_iadd C dL_law_264 ?_
    refine g_topi (y := nI (6 * c + 3)) (nI_add (6 * c) 3) ?_
    refine g_scr C hX hb hbA (j := 6 * c + 3) (by omega) (by omega) dL_law_265 ?_
    refine g_topi e3 ?_
    refine g_aload_n C dL_law_266 1 rfl ?_
    refine g_iload C dL_law_267 6 rfl ?_
    refine g_iconst C dL_law_269 (v := 4) (by decide) ?_
    refine g_iadd C dL_law_270 ?_
    refine g_topi (y := nI (6 * c + 4)) (nI_add (6 * c) 4) ?_
    refine g_scr C hX hb hbA (j := 6 * c + 4) (by omega) (by omega) dL_law_271 ?_
    refine g_topi e4 ?_
    refine g_callViW C dL_law_272 (c_X11_setTank _ _ _ _ _ _ _ _ _ _ _ _ _) tw1398 tw1399 tw1400 tw16 tw1401 (rv_X11 C) rfl ⟨by decide +kernel, by decide +kernel, rfl⟩ ⟨rfl, rfl⟩ (by rw [hR]; exact ⟨Nat.le_of_ble_eq_true rfl, Nat.le_of_ble_eq_true rfl⟩) (Nat.le_of_ble_eq_true rfl) (by rw [hR]; exact ⟨by show k + 1 + 0 ≤ 604801; omega, by show n + 6 + 0 ≤ 7193636; omega⟩) (fun r2 X1 M1 K1 h2_ => ?_)
    obtain ⟨er, hX1, hM1, hK1⟩ := h2_
    rw [if_neg hx] at er hM1
    subst X1 M1 K1
    refine g_istore C dL_law_275 (L' := [(7, .int (r2)), (6, .int (r1)), (0, .ref b), (1, .ref (gad G 0)), (2, .ref (gad G 42)), (3, .ref (gad G 74)), (4, .ref (gad G 75)), (5, .int (nI (6 * c)))]) rfl (by rw [hL]; decide) ?_
    refine g_aload_n C dL_law_277 4 rfl ?_
    refine g_callViW C dL_law_278 (c_X11_thrown _ _ _ _ _ _ _ _ _) tw1394 tw1395 tw1396 tw16 tw1397 (rv_X11 C) rfl ⟨by decide +kernel, by decide +kernel, rfl⟩ ⟨rfl, rfl⟩ (by rw [hR]; exact ⟨Nat.le_of_ble_eq_true rfl, Nat.le_of_ble_eq_true rfl⟩) (Nat.le_of_ble_eq_true rfl) (by rw [hR]; exact ⟨by show k + 1 + 0 + 0 ≤ 604801; omega, by show n + 6 + 0 + 0 ≤ 7193636; omega⟩) (fun r3 X1 M1 K1 h3 => ?_)
    obtain ⟨er3, hX1, hM1, hK1⟩ := h3
    subst X1 M1 K1
    have e3 : r3 = xs_tank p1 p2 p3 p4 := er3.trans (by rfl)
    refine g_iload C dL_law_281 1 rfl ?_
    refine g_icmp_eq C dL_law_283 (tgt := 288) (by decide) (fun q => ?_) (fun q => absurd (e3.trans (hcd.symm.trans hr1.symm)) q)
    refine g_iload C dL_law_288 1 rfl ?_
    refine g_if_ne C dL_law_290 (tgt := 305) (by decide) (fun q => ?_) (fun q => absurd q (fun u => hc (hr1.symm.trans u)))
    refine g_goto C dL_law_305 (tgt := 2415) (by decide) ?_
    exact g_sub [2, 3, 4, 5, 6, 7] rfl (kk _ _ _ _ _ _ _ _ _ _ (I.no _) ⟨by show k + 1 + 0 + 0 ≤ 100 + 2 * (c + 1) + (K.2.1 4 + K.2.1 5); omega, by show n + 6 + 0 + 0 ≤ 2000 + 520 * (c + 1) + (K.2.1 6 + K.2.1 7); omega⟩)

set_option maxHeartbeats 1000000 in
set_option maxRecDepth 100000 in
theorem lc_setValve {G : MC} {b Ln c : Nat} {xs : Nat → Int32} {v z z5 z8 zs : Nat} {X M : XF} {K : KF} {k n : Nat} (E : LawG G b Ln xs) (hcL : 6 * c + 6 ≤ Ln) (I : Inv c v z z5 z8 zs X M K) (hm : rmO c K k n) (kk : LwS G b c) : GH G (WX G X M K) [(0, .ref b), (1, .ref (gad G 0)), (2, .ref (gad G 42)), (3, .ref (gad G 74)), (4, .ref (gad G 75)), (5, .int (nI (6 * c)))] k n 308 [] := by
  obtain ⟨C, hst, hN, hX, hb, hbA, hLn, hR, hL⟩ := E
  have R := I.rel
  have hc5 : c < 512 := by omega
  have hnum := I.num (by omega)
  have hlen := I.len (by omega)
  obtain ⟨hm1, hm2⟩ := hm
  have hk2 := I.k2
  have hzk := I.zk
  have hsN := I.sN
  obtain ⟨p1, e1⟩ : ∃ p, xs (6 * c + 1) = p := ⟨_, rfl⟩
  obtain ⟨p2, e2⟩ : ∃ p, bz (xs (6 * c + 2)) = p := ⟨_, rfl⟩
  have h2 : isBo p2 := by rw [← e2]; exact bz_bo _
  have hcd : xk_b p1 3 = xs_b (md_nt p1) := by exact cd_b3 _
  by_cases hc : xk_b p1 3 = 0
  · have hx : xs_b (md_nt p1) = 0 := hcd.symm.trans hc
    refine g_aload_n C dL_law_308 1 rfl ?_
    refine g_aload_n C dL_law_309 0 rfl ?_
    refine g_iload C dL_law_310 5 rfl ?_
    refine g_iconst C dL_law_312 (v := 1) (by decide) ?_
    refine g_iadd C dL_law_313 ?_
    refine g_topi (y := nI (6 * c + 1)) (nI_add (6 * c) 1) ?_
    refine g_scr C hX hb hbA (j := 6 * c + 1) (by omega) (by omega) dL_law_314 ?_
    refine g_topi e1 ?_
    refine g_aload_n C dL_law_315 0 rfl ?_
    refine g_iload C dL_law_316 5 rfl ?_
    refine g_iconst C dL_law_318 (v := 2) (by decide) ?_
    refine g_iadd C dL_law_319 ?_
    refine g_topi (y := nI (6 * c + 2)) (nI_add (6 * c) 2) ?_
    refine g_scr C hX hb hbA (j := 6 * c + 2) (by omega) (by omega) dL_law_320 ?_
    have jn1 : GH G (WX G X M K) [(0, .ref b), (1, .ref (gad G 0)), (2, .ref (gad G 42)), (3, .ref (gad G 74)), (4, .ref (gad G 75)), (5, .int (nI (6 * c)))] k n 329 [.int (p2), .int (p1), .ref (gad G 0)] := by
      refine g_aload_n C dL_law_329 3 rfl ?_
      refine g_callH C hN (c_L_setValve _ _ _ _ _ _ _ _ _ _ _ h2 R.bo6 hst) tw677 tw678 tw0 tw679 rfl ⟨by decide +kernel, by decide +kernel, rfl⟩ ⟨rfl, rfl⟩ (by rw [hR]; exact ⟨Nat.le_of_ble_eq_true rfl, Nat.le_of_ble_eq_true rfl⟩) (Nat.le_of_ble_eq_true rfl) dL_law_330 (by rw [hR]; exact ⟨by show k + 1 ≤ 604801; omega, by show n + 6 ≤ 7193636; omega⟩) (fun r1 X1 M1 K1 h1_ => ?_)
      obtain ⟨-, rfl, hX1, hM1, hK1⟩ := h1_.resolve_right (fun q => q.1 hc)
      subst X1 M1 K1
      refine g_istore C dL_law_333 (L' := [(6, .int (0)), (0, .ref b), (1, .ref (gad G 0)), (2, .ref (gad G 42)), (3, .ref (gad G 74)), (4, .ref (gad G 75)), (5, .int (nI (6 * c)))]) rfl (by rw [hL]; decide) ?_
      refine g_aload_n C dL_law_335 3 rfl ?_
      refine g_aload_n C dL_law_336 1 rfl ?_
      refine g_iload C dL_law_337 6 rfl ?_
      refine g_iconst C dL_law_339 (v := 1) (by decide) ?_
      refine g_iadd C dL_law_340 ?_
      refine g_topi (y := nI (6 * c + 1)) (nI_add (6 * c) 1) ?_
      refine g_scr C hX hb hbA (j := 6 * c + 1) (by omega) (by omega) dL_law_341 ?_
      refine g_topi e1 ?_
      refine g_aload_n C dL_law_342 1 rfl ?_
      refine g_iload C dL_law_343 6 rfl ?_
      refine g_iconst C dL_law_345 (v := 2) (by decide) ?_
      refine g_iadd C dL_law_346 ?_
      refine g_topi (y := nI (6 * c + 2)) (nI_add (6 * c) 2) ?_
      refine g_scr C hX hb hbA (j := 6 * c + 2) (by omega) (by omega) dL_law_347 ?_
      have jn2 : GH G (WX G (sa X 6 (upd (X 6) p1.toNatClampNeg p2)) M (kO K (if (X 6 p1.toNatClampNeg : Int32) = 0 then 0 else 1))) [(6, .int (0)), (0, .ref b), (1, .ref (gad G 0)), (2, .ref (gad G 42)), (3, .ref (gad G 74)), (4, .ref (gad G 75)), (5, .int (nI (6 * c)))] (k + 1) (n + 6) 356 [.int (p2), .int (p1), .ref (gad G 42)] := by
        refine g_callViW C dL_law_356 (c_X11_setValve _ _ _ _ _ _ _ _ _ _ _ h2 R.bo47) tw1417 tw1418 tw1419 tw16 tw1420 (rv_X11 C) rfl ⟨by decide +kernel, by decide +kernel, rfl⟩ ⟨rfl, rfl⟩ (by rw [hR]; exact ⟨Nat.le_of_ble_eq_true rfl, Nat.le_of_ble_eq_true rfl⟩) (Nat.le_of_ble_eq_true rfl) (by rw [hR]; exact ⟨by show k + 1 + 0 ≤ 604801; omega, by show n + 6 + 0 ≤ 7193636; omega⟩) (fun r2 X1 M1 K1 h2_ => ?_)
        obtain ⟨er, hX1, hM1, hK1⟩ := h2_
        rw [if_pos hx] at er hM1
        subst X1 M1 K1
        have heq : (X 6 p1.toNatClampNeg : Int32) = r2 := ((o_valve R p1 p2 h2).1).trans er.symm
        refine g_istore C dL_law_359 (L' := [(7, .int (r2)), (6, .int (0)), (0, .ref b), (1, .ref (gad G 0)), (2, .ref (gad G 42)), (3, .ref (gad G 74)), (4, .ref (gad G 75)), (5, .int (nI (6 * c)))]) rfl (by rw [hL]; decide) ?_
        refine g_aload_n C dL_law_361 4 rfl ?_
        refine g_callViW C dL_law_362 (c_X11_thrown _ _ _ _ _ _ _ _ _) tw1394 tw1395 tw1396 tw16 tw1397 (rv_X11 C) rfl ⟨by decide +kernel, by decide +kernel, rfl⟩ ⟨rfl, rfl⟩ (by rw [hR]; exact ⟨Nat.le_of_ble_eq_true rfl, Nat.le_of_ble_eq_true rfl⟩) (Nat.le_of_ble_eq_true rfl) (by rw [hR]; exact ⟨by show k + 1 + 0 + 0 ≤ 604801; omega, by show n + 6 + 0 + 0 ≤ 7193636; omega⟩) (fun r3 X1 M1 K1 h3 => ?_)
        obtain ⟨er3, hX1, hM1, hK1⟩ := h3
        subst X1 M1 K1
        have e3 : r3 = 0 := er3.trans (by rfl)
        refine g_iload C dL_law_365 1 rfl ?_
        refine g_icmp_eq C dL_law_367 (tgt := 372) (by decide) (fun q => ?_) (fun q => absurd e3 q)
        refine g_iload C dL_law_372 1 rfl ?_
        refine g_if_ne C dL_law_374 (tgt := 396) (by decide) (fun q => absurd q (by decide)) (fun q => ?_)
        refine g_aload_n C dL_law_377 5 rfl ?_
        refine g_iconst C dL_law_378 (v := 0) (by decide) ?_
        refine al_74 C dL_law_379 ?_
        refine g_topl (y := (if (X 6 p1.toNatClampNeg : Int32) = 0 then 0 else 1)) (kO_at _ _) ?_
        refine g_iload C dL_law_380 0 rfl ?_
        refine g_if_eq C dL_law_382 (tgt := 389) (by decide) (fun q => ?_) (fun q => ?_)
        · refine g_lconst C dL_law_389 (v := 0) (by decide) ?_
          refine g_lcmpe C (by rw [heq, if_pos q]) dL_law_390 ?_
          refine g_if_eq C dL_law_391 (tgt := 396) (by decide) (fun q => ?_) (fun q => absurd (by decide) q)
          refine g_goto C dL_law_396 (tgt := 2415) (by decide) ?_
          exact g_sub [2, 3, 4, 5, 6, 7] rfl (kk _ _ _ _ _ _ _ _ _ _ (I.stay _ (o_valve R p1 p2 h2).2 rfl rfl rfl) ⟨by show k + 1 + 0 + 0 ≤ 100 + 2 * (c + 1) + (K.2.1 4 + K.2.1 5); omega, by show n + 6 + 0 + 0 ≤ 2000 + 520 * (c + 1) + (K.2.1 6 + K.2.1 7); omega⟩)
        · refine g_lconst C dL_law_385 (v := 1) (by decide) ?_
          refine g_goto C dL_law_386 (tgt := 390) (by decide) ?_
          refine g_lcmpe C (by rw [heq, if_neg q]) dL_law_390 ?_
          refine g_if_eq C dL_law_391 (tgt := 396) (by decide) (fun q => ?_) (fun q => absurd (by decide) q)
          refine g_goto C dL_law_396 (tgt := 2415) (by decide) ?_
          exact g_sub [2, 3, 4, 5, 6, 7] rfl (kk _ _ _ _ _ _ _ _ _ _ (I.stay _ (o_valve R p1 p2 h2).2 rfl rfl rfl) ⟨by show k + 1 + 0 + 0 ≤ 100 + 2 * (c + 1) + (K.2.1 4 + K.2.1 5); omega, by show n + 6 + 0 + 0 ≤ 2000 + 520 * (c + 1) + (K.2.1 6 + K.2.1 7); omega⟩)
      refine g_if_eq C dL_law_348 (tgt := 355) (by decide) (fun q => ?_) (fun q => ?_)
      · refine g_iconst C dL_law_355 (v := 0) (by decide) ?_
        exact g_topi (show (0 : Int32) = p2 by rw [← e2]; exact (if_pos q).symm) jn2
      · refine g_iconst C dL_law_351 (v := 1) (by decide) ?_
        refine g_goto C dL_law_352 (tgt := 356) (by decide) ?_
        exact g_topi (show (1 : Int32) = p2 by rw [← e2]; exact (if_neg q).symm) jn2
    refine g_if_eq C dL_law_321 (tgt := 328) (by decide) (fun q => ?_) (fun q => ?_)
    · refine g_iconst C dL_law_328 (v := 0) (by decide) ?_
      exact g_topi (show (0 : Int32) = p2 by rw [← e2]; exact (if_pos q).symm) jn1
    · refine g_iconst C dL_law_324 (v := 1) (by decide) ?_
      refine g_goto C dL_law_325 (tgt := 329) (by decide) ?_
      exact g_topi (show (1 : Int32) = p2 by rw [← e2]; exact (if_neg q).symm) jn1
  · have hx : ¬ xs_b (md_nt p1) = 0 := fun q => hc (hcd.trans q)
    refine g_aload_n C dL_law_308 1 rfl ?_
    refine g_aload_n C dL_law_309 0 rfl ?_
    refine g_iload C dL_law_310 5 rfl ?_
    refine g_iconst C dL_law_312 (v := 1) (by decide) ?_
    refine g_iadd C dL_law_313 ?_
    refine g_topi (y := nI (6 * c + 1)) (nI_add (6 * c) 1) ?_
    refine g_scr C hX hb hbA (j := 6 * c + 1) (by omega) (by omega) dL_law_314 ?_
    refine g_topi e1 ?_
    refine g_aload_n C dL_law_315 0 rfl ?_
    refine g_iload C dL_law_316 5 rfl ?_
    refine g_iconst C dL_law_318 (v := 2) (by decide) ?_
    refine g_iadd C dL_law_319 ?_
    refine g_topi (y := nI (6 * c + 2)) (nI_add (6 * c) 2) ?_
    refine g_scr C hX hb hbA (j := 6 * c + 2) (by omega) (by omega) dL_law_320 ?_
    have jn3 : GH G (WX G X M K) [(0, .ref b), (1, .ref (gad G 0)), (2, .ref (gad G 42)), (3, .ref (gad G 74)), (4, .ref (gad G 75)), (5, .int (nI (6 * c)))] k n 329 [.int (p2), .int (p1), .ref (gad G 0)] := by
      refine g_aload_n C dL_law_329 3 rfl ?_
      refine g_callH C hN (c_L_setValve _ _ _ _ _ _ _ _ _ _ _ h2 R.bo6 hst) tw677 tw678 tw0 tw679 rfl ⟨by decide +kernel, by decide +kernel, rfl⟩ ⟨rfl, rfl⟩ (by rw [hR]; exact ⟨Nat.le_of_ble_eq_true rfl, Nat.le_of_ble_eq_true rfl⟩) (Nat.le_of_ble_eq_true rfl) dL_law_330 (by rw [hR]; exact ⟨by show k + 1 ≤ 604801; omega, by show n + 6 ≤ 7193636; omega⟩) (fun r1 X1 M1 K1 h1_ => ?_)
      obtain ⟨-, hr1, hX1, hM1, hK1⟩ := h1_.resolve_left (fun q => hc q.1)
      subst X1 M1 K1
      refine g_istore C dL_law_333 (L' := [(6, .int (r1)), (0, .ref b), (1, .ref (gad G 0)), (2, .ref (gad G 42)), (3, .ref (gad G 74)), (4, .ref (gad G 75)), (5, .int (nI (6 * c)))]) rfl (by rw [hL]; decide) ?_
      refine g_aload_n C dL_law_335 3 rfl ?_
      refine g_aload_n C dL_law_336 1 rfl ?_
      refine g_iload C dL_law_337 6 rfl ?_
      refine g_iconst C dL_law_339 (v := 1) (by decide) ?_
      refine g_iadd C dL_law_340 ?_
      refine g_topi (y := nI (6 * c + 1)) (nI_add (6 * c) 1) ?_
      refine g_scr C hX hb hbA (j := 6 * c + 1) (by omega) (by omega) dL_law_341 ?_
      refine g_topi e1 ?_
      refine g_aload_n C dL_law_342 1 rfl ?_
      refine g_iload C dL_law_343 6 rfl ?_
      refine g_iconst C dL_law_345 (v := 2) (by decide) ?_
      refine g_iadd C dL_law_346 ?_
      refine g_topi (y := nI (6 * c + 2)) (nI_add (6 * c) 2) ?_
      refine g_scr C hX hb hbA (j := 6 * c + 2) (by omega) (by omega) dL_law_347 ?_
      have jn4 : GH G (WX G X M K) [(6, .int (r1)), (0, .ref b), (1, .ref (gad G 0)), (2, .ref (gad G 42)), (3, .ref (gad G 74)), (4, .ref (gad G 75)), (5, .int (nI (6 * c)))] (k + 1) (n + 6) 356 [.int (p2), .int (p1), .ref (gad G 42)] := by
        refine g_callViW C dL_law_356 (c_X11_setValve _ _ _ _ _ _ _ _ _ _ _ h2 R.bo47) tw1417 tw1418 tw1419 tw16 tw1420 (rv_X11 C) rfl ⟨by decide +kernel, by decide +kernel, rfl⟩ ⟨rfl, rfl⟩ (by rw [hR]; exact ⟨Nat.le_of_ble_eq_true rfl, Nat.le_of_ble_eq_true rfl⟩) (Nat.le_of_ble_eq_true rfl) (by rw [hR]; exact ⟨by show k + 1 + 0 ≤ 604801; omega, by show n + 6 + 0 ≤ 7193636; omega⟩) (fun r2 X1 M1 K1 h2_ => ?_)
        obtain ⟨er, hX1, hM1, hK1⟩ := h2_
        rw [if_neg hx] at er hM1
        subst X1 M1 K1
        refine g_istore C dL_law_359 (L' := [(7, .int (r2)), (6, .int (r1)), (0, .ref b), (1, .ref (gad G 0)), (2, .ref (gad G 42)), (3, .ref (gad G 74)), (4, .ref (gad G 75)), (5, .int (nI (6 * c)))]) rfl (by rw [hL]; decide) ?_
        refine g_aload_n C dL_law_361 4 rfl ?_
        refine g_callViW C dL_law_362 (c_X11_thrown _ _ _ _ _ _ _ _ _) tw1394 tw1395 tw1396 tw16 tw1397 (rv_X11 C) rfl ⟨by decide +kernel, by decide +kernel, rfl⟩ ⟨rfl, rfl⟩ (by rw [hR]; exact ⟨Nat.le_of_ble_eq_true rfl, Nat.le_of_ble_eq_true rfl⟩) (Nat.le_of_ble_eq_true rfl) (by rw [hR]; exact ⟨by show k + 1 + 0 + 0 ≤ 604801; omega, by show n + 6 + 0 + 0 ≤ 7193636; omega⟩) (fun r3 X1 M1 K1 h3 => ?_)
        obtain ⟨er3, hX1, hM1, hK1⟩ := h3
        subst X1 M1 K1
        have e3 : r3 = xs_b (md_nt p1) := er3.trans (by rfl)
        refine g_iload C dL_law_365 1 rfl ?_
        refine g_icmp_eq C dL_law_367 (tgt := 372) (by decide) (fun q => ?_) (fun q => absurd (e3.trans (hcd.symm.trans hr1.symm)) q)
        refine g_iload C dL_law_372 1 rfl ?_
        refine g_if_ne C dL_law_374 (tgt := 396) (by decide) (fun q => ?_) (fun q => absurd q (fun u => hc (hr1.symm.trans u)))
        refine g_goto C dL_law_396 (tgt := 2415) (by decide) ?_
        exact g_sub [2, 3, 4, 5, 6, 7] rfl (kk _ _ _ _ _ _ _ _ _ _ (I.no _) ⟨by show k + 1 + 0 + 0 ≤ 100 + 2 * (c + 1) + (K.2.1 4 + K.2.1 5); omega, by show n + 6 + 0 + 0 ≤ 2000 + 520 * (c + 1) + (K.2.1 6 + K.2.1 7); omega⟩)
      refine g_if_eq C dL_law_348 (tgt := 355) (by decide) (fun q => ?_) (fun q => ?_)
      · refine g_iconst C dL_law_355 (v := 0) (by decide) ?_
        exact g_topi (show (0 : Int32) = p2 by rw [← e2]; exact (if_pos q).symm) jn4
      · refine g_iconst C dL_law_351 (v := 1) (by decide) ?_
        refine g_goto C dL_law_352 (tgt := 356) (by decide) ?_
        exact g_topi (show (1 : Int32) = p2 by rw [← e2]; exact (if_neg q).symm) jn4
    refine g_if_eq C dL_law_321 (tgt := 328) (by decide) (fun q => ?_) (fun q => ?_)
    · refine g_iconst C dL_law_328 (v := 0) (by decide) ?_
      exact g_topi (show (0 : Int32) = p2 by rw [← e2]; exact (if_pos q).symm) jn3
    · refine g_iconst C dL_law_324 (v := 1) (by decide) ?_
      refine g_goto C dL_law_325 (tgt := 329) (by decide) ?_
      exact g_topi (show (1 : Int32) = p2 by rw [← e2]; exact (if_neg q).symm) jn3

set_option maxHeartbeats 1000000 in
set_option maxRecDepth 100000 in
theorem lc_drain {G : MC} {b Ln c : Nat} {xs : Nat → Int32} {v z z5 z8 zs : Nat} {X M : XF} {K : KF} {k n : Nat} (E : LawG G b Ln xs) (hcL : 6 * c + 6 ≤ Ln) (I : Inv c v z z5 z8 zs X M K) (hm : rmO c K k n) (kk : LwS G b c) : GH G (WX G X M K) [(0, .ref b), (1, .ref (gad G 0)), (2, .ref (gad G 42)), (3, .ref (gad G 74)), (4, .ref (gad G 75)), (5, .int (nI (6 * c)))] k n 399 [] := by
  obtain ⟨C, hst, hN, hX, hb, hbA, hLn, hR, hL⟩ := E
  have R := I.rel
  have hc5 : c < 512 := by omega
  have hnum := I.num (by omega)
  have hlen := I.len (by omega)
  obtain ⟨hm1, hm2⟩ := hm
  have hk2 := I.k2
  have hzk := I.zk
  have hsN := I.sN
  obtain ⟨p1, e1⟩ : ∃ p, xs (6 * c + 1) = p := ⟨_, rfl⟩
  obtain ⟨p2, e2⟩ : ∃ p, xs (6 * c + 2) = p := ⟨_, rfl⟩
  have hcd : xk_drain p1 p2 = xs_drain p1 p2 := by exact cd_drain _ _
  by_cases hc : xk_drain p1 p2 = 0
  · have hx : xs_drain p1 p2 = 0 := hcd.symm.trans hc
    refine g_aload_n C dL_law_399 1 rfl ?_
    refine g_aload_n C dL_law_400 0 rfl ?_
    refine g_iload C dL_law_401 5 rfl ?_
    refine g_iconst C dL_law_403 (v := 1) (by decide) ?_
    refine g_iadd C dL_law_404 ?_
    refine g_topi (y := nI (6 * c + 1)) (nI_add (6 * c) 1) ?_
    refine g_scr C hX hb hbA (j := 6 * c + 1) (by omega) (by omega) dL_law_405 ?_
    refine g_topi e1 ?_
    refine g_aload_n C dL_law_406 0 rfl ?_
    refine g_iload C dL_law_407 5 rfl ?_
    refine g_iconst C dL_law_409 (v := 2) (by decide) ?_
    refine g_iadd C dL_law_410 ?_
    refine g_topi (y := nI (6 * c + 2)) (nI_add (6 * c) 2) ?_
    refine g_scr C hX hb hbA (j := 6 * c + 2) (by omega) (by omega) dL_law_411 ?_
    refine g_topi e2 ?_
    refine g_aload_n C dL_law_412 3 rfl ?_
    refine g_callH C hN (c_L_drain _ _ _ _ _ _ _ _ _ _ _ hst) tw685 tw686 tw0 tw687 rfl ⟨by decide +kernel, by decide +kernel, rfl⟩ ⟨rfl, rfl⟩ (by rw [hR]; exact ⟨Nat.le_of_ble_eq_true rfl, Nat.le_of_ble_eq_true rfl⟩) (Nat.le_of_ble_eq_true rfl) dL_law_413 (by rw [hR]; exact ⟨by show k + 1 ≤ 604801; omega, by show n + 6 ≤ 7193636; omega⟩) (fun r1 X1 M1 K1 h1_ => ?_)
    obtain ⟨-, rfl, hX1, hM1, hK1⟩ := h1_.resolve_right (fun q => q.1 hc)
    subst X1 M1 K1
    refine g_istore C dL_law_416 (L' := [(6, .int (0)), (0, .ref b), (1, .ref (gad G 0)), (2, .ref (gad G 42)), (3, .ref (gad G 74)), (4, .ref (gad G 75)), (5, .int (nI (6 * c)))]) rfl (by rw [hL]; decide) ?_
    refine g_aload_n C dL_law_418 3 rfl ?_
    refine g_aload_n C dL_law_419 1 rfl ?_
    refine g_iload C dL_law_420 6 rfl ?_
    refine g_iconst C dL_law_422 (v := 1) (by decide) ?_
    refine g_iadd C dL_law_423 ?_
    refine g_topi (y := nI (6 * c + 1)) (nI_add (6 * c) 1) ?_
    refine g_scr C hX hb hbA (j := 6 * c + 1) (by omega) (by omega) dL_law_424 ?_
    refine g_topi e1 ?_
    refine g_aload_n C dL_law_425 1 rfl ?_
    refine g_iload C dL_law_426 6 rfl ?_
    refine g_iconst C dL_law_428 (v := 2) (by decide) ?_
    refine g_iadd C dL_law_429 ?_
    refine g_topi (y := nI (6 * c + 2)) (nI_add (6 * c) 2) ?_
    refine g_scr C hX hb hbA (j := 6 * c + 2) (by omega) (by omega) dL_law_430 ?_
    refine g_topi e2 ?_
    refine g_callViW C dL_law_431 (c_X11_drain _ _ _ _ _ _ _ _ _ _ _) tw1421 tw1422 tw1423 tw16 tw1424 (rv_X11 C) rfl ⟨by decide +kernel, by decide +kernel, rfl⟩ ⟨rfl, rfl⟩ (by rw [hR]; exact ⟨Nat.le_of_ble_eq_true rfl, Nat.le_of_ble_eq_true rfl⟩) (Nat.le_of_ble_eq_true rfl) (by rw [hR]; exact ⟨by show k + 1 + 0 ≤ 604801; omega, by show n + 6 + 0 ≤ 7193636; omega⟩) (fun r2 X1 M1 K1 h2_ => ?_)
    obtain ⟨er, hX1, hM1, hK1⟩ := h2_
    rw [if_pos hx] at er hM1
    subst X1 M1 K1
    have heq : (tk_min (X 5 p1.toNatClampNeg) p2 : Int32) = r2 := ((o_drain R p1 p2 hc).1).trans er.symm
    refine g_istore C dL_law_434 (L' := [(7, .int (r2)), (6, .int (0)), (0, .ref b), (1, .ref (gad G 0)), (2, .ref (gad G 42)), (3, .ref (gad G 74)), (4, .ref (gad G 75)), (5, .int (nI (6 * c)))]) rfl (by rw [hL]; decide) ?_
    refine g_aload_n C dL_law_436 4 rfl ?_
    refine g_callViW C dL_law_437 (c_X11_thrown _ _ _ _ _ _ _ _ _) tw1394 tw1395 tw1396 tw16 tw1397 (rv_X11 C) rfl ⟨by decide +kernel, by decide +kernel, rfl⟩ ⟨rfl, rfl⟩ (by rw [hR]; exact ⟨Nat.le_of_ble_eq_true rfl, Nat.le_of_ble_eq_true rfl⟩) (Nat.le_of_ble_eq_true rfl) (by rw [hR]; exact ⟨by show k + 1 + 0 + 0 ≤ 604801; omega, by show n + 6 + 0 + 0 ≤ 7193636; omega⟩) (fun r3 X1 M1 K1 h3 => ?_)
    obtain ⟨er3, hX1, hM1, hK1⟩ := h3
    subst X1 M1 K1
    have e3 : r3 = 0 := er3.trans (by rfl)
    refine g_iload C dL_law_440 1 rfl ?_
    refine g_icmp_eq C dL_law_442 (tgt := 447) (by decide) (fun q => ?_) (fun q => absurd e3 q)
    refine g_iload C dL_law_447 1 rfl ?_
    refine g_if_ne C dL_law_449 (tgt := 464) (by decide) (fun q => absurd q (by decide)) (fun q => ?_)
    refine g_aload_n C dL_law_452 5 rfl ?_
    refine g_iconst C dL_law_453 (v := 0) (by decide) ?_
    refine al_74 C dL_law_454 ?_
    refine g_topl (y := (tk_min (X 5 p1.toNatClampNeg) p2 : Int32).toInt64) (kO_at _ _) ?_
    refine g_iload C dL_law_455 0 rfl ?_
    refine g_i2l C dL_law_457 ?_
    refine g_lcmpe C (by rw [heq]) dL_law_458 ?_
    refine g_if_eq C dL_law_459 (tgt := 464) (by decide) (fun q => ?_) (fun q => absurd (by decide) q)
    refine g_goto C dL_law_464 (tgt := 2415) (by decide) ?_
    exact g_sub [2, 3, 4, 5, 6, 7] rfl (kk _ _ _ _ _ _ _ _ _ _ (I.stay _ (o_drain R p1 p2 hc).2 rfl rfl rfl) ⟨by show k + 1 + 0 + 0 ≤ 100 + 2 * (c + 1) + (K.2.1 4 + K.2.1 5); omega, by show n + 6 + 0 + 0 ≤ 2000 + 520 * (c + 1) + (K.2.1 6 + K.2.1 7); omega⟩)
  · have hx : ¬ xs_drain p1 p2 = 0 := fun q => hc (hcd.trans q)
    refine g_aload_n C dL_law_399 1 rfl ?_
    refine g_aload_n C dL_law_400 0 rfl ?_
    refine g_iload C dL_law_401 5 rfl ?_
    refine g_iconst C dL_law_403 (v := 1) (by decide) ?_
    refine g_iadd C dL_law_404 ?_
    refine g_topi (y := nI (6 * c + 1)) (nI_add (6 * c) 1) ?_
    refine g_scr C hX hb hbA (j := 6 * c + 1) (by omega) (by omega) dL_law_405 ?_
    refine g_topi e1 ?_
    refine g_aload_n C dL_law_406 0 rfl ?_
    refine g_iload C dL_law_407 5 rfl ?_
    refine g_iconst C dL_law_409 (v := 2) (by decide) ?_
    refine g_iadd C dL_law_410 ?_
    refine g_topi (y := nI (6 * c + 2)) (nI_add (6 * c) 2) ?_
    refine g_scr C hX hb hbA (j := 6 * c + 2) (by omega) (by omega) dL_law_411 ?_
    refine g_topi e2 ?_
    refine g_aload_n C dL_law_412 3 rfl ?_
    refine g_callH C hN (c_L_drain _ _ _ _ _ _ _ _ _ _ _ hst) tw685 tw686 tw0 tw687 rfl ⟨by decide +kernel, by decide +kernel, rfl⟩ ⟨rfl, rfl⟩ (by rw [hR]; exact ⟨Nat.le_of_ble_eq_true rfl, Nat.le_of_ble_eq_true rfl⟩) (Nat.le_of_ble_eq_true rfl) dL_law_413 (by rw [hR]; exact ⟨by show k + 1 ≤ 604801; omega, by show n + 6 ≤ 7193636; omega⟩) (fun r1 X1 M1 K1 h1_ => ?_)
    obtain ⟨-, hr1, hX1, hM1, hK1⟩ := h1_.resolve_left (fun q => hc q.1)
    subst X1 M1 K1
    refine g_istore C dL_law_416 (L' := [(6, .int (r1)), (0, .ref b), (1, .ref (gad G 0)), (2, .ref (gad G 42)), (3, .ref (gad G 74)), (4, .ref (gad G 75)), (5, .int (nI (6 * c)))]) rfl (by rw [hL]; decide) ?_
    refine g_aload_n C dL_law_418 3 rfl ?_
    refine g_aload_n C dL_law_419 1 rfl ?_
    refine g_iload C dL_law_420 6 rfl ?_
    refine g_iconst C dL_law_422 (v := 1) (by decide) ?_
    refine g_iadd C dL_law_423 ?_
    refine g_topi (y := nI (6 * c + 1)) (nI_add (6 * c) 1) ?_
    refine g_scr C hX hb hbA (j := 6 * c + 1) (by omega) (by omega) dL_law_424 ?_
    refine g_topi e1 ?_
    refine g_aload_n C dL_law_425 1 rfl ?_
    refine g_iload C dL_law_426 6 rfl ?_
    refine g_iconst C dL_law_428 (v := 2) (by decide) ?_
    refine g_iadd C dL_law_429 ?_
    refine g_topi (y := nI (6 * c + 2)) (nI_add (6 * c) 2) ?_
    refine g_scr C hX hb hbA (j := 6 * c + 2) (by omega) (by omega) dL_law_430 ?_
    refine g_topi e2 ?_
    refine g_callViW C dL_law_431 (c_X11_drain _ _ _ _ _ _ _ _ _ _ _) tw1421 tw1422 tw1423 tw16 tw1424 (rv_X11 C) rfl ⟨by decide +kernel, by decide +kernel, rfl⟩ ⟨rfl, rfl⟩ (by rw [hR]; exact ⟨Nat.le_of_ble_eq_true rfl, Nat.le_of_ble_eq_true rfl⟩) (Nat.le_of_ble_eq_true rfl) (by rw [hR]; exact ⟨by show k + 1 + 0 ≤ 604801; omega, by show n + 6 + 0 ≤ 7193636; omega⟩) (fun r2 X1 M1 K1 h2_ => ?_)
    obtain ⟨er, hX1, hM1, hK1⟩ := h2_
    rw [if_neg hx] at er hM1
    subst X1 M1 K1
    refine g_istore C dL_law_434 (L' := [(7, .int (r2)), (6, .int (r1)), (0, .ref b), (1, .ref (gad G 0)), (2, .ref (gad G 42)), (3, .ref (gad G 74)), (4, .ref (gad G 75)), (5, .int (nI (6 * c)))]) rfl (by rw [hL]; decide) ?_
    refine g_aload_n C dL_law_436 4 rfl ?_
    refine g_callViW C dL_law_437 (c_X11_thrown _ _ _ _ _ _ _ _ _) tw1394 tw1395 tw1396 tw16 tw1397 (rv_X11 C) rfl ⟨by decide +kernel, by decide +kernel, rfl⟩ ⟨rfl, rfl⟩ (by rw [hR]; exact ⟨Nat.le_of_ble_eq_true rfl, Nat.le_of_ble_eq_true rfl⟩) (Nat.le_of_ble_eq_true rfl) (by rw [hR]; exact ⟨by show k + 1 + 0 + 0 ≤ 604801; omega, by show n + 6 + 0 + 0 ≤ 7193636; omega⟩) (fun r3 X1 M1 K1 h3 => ?_)
    obtain ⟨er3, hX1, hM1, hK1⟩ := h3
    subst X1 M1 K1
    have e3 : r3 = xs_drain p1 p2 := er3.trans (by rfl)
    refine g_iload C dL_law_440 1 rfl ?_
    refine g_icmp_eq C dL_law_442 (tgt := 447) (by decide) (fun q => ?_) (fun q => absurd (e3.trans (hcd.symm.trans hr1.symm)) q)
    refine g_iload C dL_law_447 1 rfl ?_
    refine g_if_ne C dL_law_449 (tgt := 464) (by decide) (fun q => ?_) (fun q => absurd q (fun u => hc (hr1.symm.trans u)))
    refine g_goto C dL_law_464 (tgt := 2415) (by decide) ?_
    exact g_sub [2, 3, 4, 5, 6, 7] rfl (kk _ _ _ _ _ _ _ _ _ _ (I.no _) ⟨by show k + 1 + 0 + 0 ≤ 100 + 2 * (c + 1) + (K.2.1 4 + K.2.1 5); omega, by show n + 6 + 0 + 0 ≤ 2000 + 520 * (c + 1) + (K.2.1 6 + K.2.1 7); omega⟩)

set_option maxHeartbeats 1000000 in
set_option maxRecDepth 100000 in
theorem lc_inTank {G : MC} {b Ln c : Nat} {xs : Nat → Int32} {v z z5 z8 zs : Nat} {X M : XF} {K : KF} {k n : Nat} (E : LawG G b Ln xs) (hcL : 6 * c + 6 ≤ Ln) (I : Inv c v z z5 z8 zs X M K) (hm : rmO c K k n) (kk : LwS G b c) : GH G (WX G X M K) [(0, .ref b), (1, .ref (gad G 0)), (2, .ref (gad G 42)), (3, .ref (gad G 74)), (4, .ref (gad G 75)), (5, .int (nI (6 * c)))] k n 467 [] := by
  obtain ⟨C, hst, hN, hX, hb, hbA, hLn, hR, hL⟩ := E
  have R := I.rel
  have hc5 : c < 512 := by omega
  have hnum := I.num (by omega)
  have hlen := I.len (by omega)
  obtain ⟨hm1, hm2⟩ := hm
  have hk2 := I.k2
  have hzk := I.zk
  have hsN := I.sN
  obtain ⟨p1, e1⟩ : ∃ p, xs (6 * c + 1) = p := ⟨_, rfl⟩
  have hcd : xk_b p1 3 = xs_b (md_nt p1) := by exact cd_b3 _
  by_cases hc : xk_b p1 3 = 0
  · have hx : xs_b (md_nt p1) = 0 := hcd.symm.trans hc
    refine g_aload_n C dL_law_467 1 rfl ?_
    refine g_aload_n C dL_law_468 0 rfl ?_
    refine g_iload C dL_law_469 5 rfl ?_
    refine g_iconst C dL_law_471 (v := 1) (by decide) ?_
    refine g_iadd C dL_law_472 ?_
    refine g_topi (y := nI (6 * c + 1)) (nI_add (6 * c) 1) ?_
    refine g_scr C hX hb hbA (j := 6 * c + 1) (by omega) (by omega) dL_law_473 ?_
    refine g_topi e1 ?_
    refine g_aload_n C dL_law_474 3 rfl ?_
    refine g_callH C hN (c_L_inTank _ _ _ _ _ _ _ _ _ _ hst) tw697 tw698 tw0 tw699 rfl ⟨by decide +kernel, by decide +kernel, rfl⟩ ⟨rfl, rfl⟩ (by rw [hR]; exact ⟨Nat.le_of_ble_eq_true rfl, Nat.le_of_ble_eq_true rfl⟩) (Nat.le_of_ble_eq_true rfl) dL_law_475 (by rw [hR]; exact ⟨by show k + 1 ≤ 604801; omega, by show n + 6 ≤ 7193636; omega⟩) (fun r1 X1 M1 K1 h1_ => ?_)
    obtain ⟨-, rfl, hX1, hM1, hK1⟩ := h1_.resolve_right (fun q => q.1 hc)
    subst X1 M1 K1
    refine g_istore C dL_law_478 (L' := [(6, .int (0)), (0, .ref b), (1, .ref (gad G 0)), (2, .ref (gad G 42)), (3, .ref (gad G 74)), (4, .ref (gad G 75)), (5, .int (nI (6 * c)))]) rfl (by rw [hL]; decide) ?_
    refine g_aload_n C dL_law_480 3 rfl ?_
    refine g_aload_n C dL_law_481 1 rfl ?_
    refine g_iload C dL_law_482 6 rfl ?_
    refine g_iconst C dL_law_484 (v := 1) (by decide) ?_
    refine g_iadd C dL_law_485 ?_
    refine g_topi (y := nI (6 * c + 1)) (nI_add (6 * c) 1) ?_
    refine g_scr C hX hb hbA (j := 6 * c + 1) (by omega) (by omega) dL_law_486 ?_
    refine g_topi e1 ?_
    refine g_callViW C dL_law_487 (c_X11_inTank _ _ _ _ _ _ _ _ _ _) tw1425 tw1426 tw1427 tw16 tw1428 (rv_X11 C) rfl ⟨by decide +kernel, by decide +kernel, rfl⟩ ⟨rfl, rfl⟩ (by rw [hR]; exact ⟨Nat.le_of_ble_eq_true rfl, Nat.le_of_ble_eq_true rfl⟩) (Nat.le_of_ble_eq_true rfl) (by rw [hR]; exact ⟨by show k + 1 + 0 ≤ 604801; omega, by show n + 6 + 0 ≤ 7193636; omega⟩) (fun r2 X1 M1 K1 h2_ => ?_)
    obtain ⟨er, hX1, hM1, hK1⟩ := h2_
    rw [if_pos hx] at er hM1
    subst X1 M1 K1
    have heq : (X 5 p1.toNatClampNeg : Int32) = r2 := (congrFun R.e5 _).trans er.symm
    refine g_istore C dL_law_490 (L' := [(7, .int (r2)), (6, .int (0)), (0, .ref b), (1, .ref (gad G 0)), (2, .ref (gad G 42)), (3, .ref (gad G 74)), (4, .ref (gad G 75)), (5, .int (nI (6 * c)))]) rfl (by rw [hL]; decide) ?_
    refine g_aload_n C dL_law_492 4 rfl ?_
    refine g_callViW C dL_law_493 (c_X11_thrown _ _ _ _ _ _ _ _ _) tw1394 tw1395 tw1396 tw16 tw1397 (rv_X11 C) rfl ⟨by decide +kernel, by decide +kernel, rfl⟩ ⟨rfl, rfl⟩ (by rw [hR]; exact ⟨Nat.le_of_ble_eq_true rfl, Nat.le_of_ble_eq_true rfl⟩) (Nat.le_of_ble_eq_true rfl) (by rw [hR]; exact ⟨by show k + 1 + 0 + 0 ≤ 604801; omega, by show n + 6 + 0 + 0 ≤ 7193636; omega⟩) (fun r3 X1 M1 K1 h3 => ?_)
    obtain ⟨er3, hX1, hM1, hK1⟩ := h3
    subst X1 M1 K1
    have e3 : r3 = 0 := er3.trans (by rfl)
    refine g_iload C dL_law_496 1 rfl ?_
    refine g_icmp_eq C dL_law_498 (tgt := 503) (by decide) (fun q => ?_) (fun q => absurd e3 q)
    refine g_iload C dL_law_503 1 rfl ?_
    refine g_if_ne C dL_law_505 (tgt := 520) (by decide) (fun q => absurd q (by decide)) (fun q => ?_)
    refine g_aload_n C dL_law_508 5 rfl ?_
    refine g_iconst C dL_law_509 (v := 0) (by decide) ?_
    refine al_74 C dL_law_510 ?_
    refine g_topl (y := (X 5 p1.toNatClampNeg : Int32).toInt64) (kO_at _ _) ?_
    refine g_iload C dL_law_511 0 rfl ?_
    refine g_i2l C dL_law_513 ?_
    refine g_lcmpe C (by rw [heq]) dL_law_514 ?_
    refine g_if_eq C dL_law_515 (tgt := 520) (by decide) (fun q => ?_) (fun q => absurd (by decide) q)
    refine g_goto C dL_law_520 (tgt := 2415) (by decide) ?_
    exact g_sub [2, 3, 4, 5, 6, 7] rfl (kk _ _ _ _ _ _ _ _ _ _ (I.stay _ (R.thr 0) rfl rfl rfl) ⟨by show k + 1 + 0 + 0 ≤ 100 + 2 * (c + 1) + (K.2.1 4 + K.2.1 5); omega, by show n + 6 + 0 + 0 ≤ 2000 + 520 * (c + 1) + (K.2.1 6 + K.2.1 7); omega⟩)
  · have hx : ¬ xs_b (md_nt p1) = 0 := fun q => hc (hcd.trans q)
    refine g_aload_n C dL_law_467 1 rfl ?_
    refine g_aload_n C dL_law_468 0 rfl ?_
    refine g_iload C dL_law_469 5 rfl ?_
    refine g_iconst C dL_law_471 (v := 1) (by decide) ?_
    refine g_iadd C dL_law_472 ?_
    refine g_topi (y := nI (6 * c + 1)) (nI_add (6 * c) 1) ?_
    refine g_scr C hX hb hbA (j := 6 * c + 1) (by omega) (by omega) dL_law_473 ?_
    refine g_topi e1 ?_
    refine g_aload_n C dL_law_474 3 rfl ?_
    refine g_callH C hN (c_L_inTank _ _ _ _ _ _ _ _ _ _ hst) tw697 tw698 tw0 tw699 rfl ⟨by decide +kernel, by decide +kernel, rfl⟩ ⟨rfl, rfl⟩ (by rw [hR]; exact ⟨Nat.le_of_ble_eq_true rfl, Nat.le_of_ble_eq_true rfl⟩) (Nat.le_of_ble_eq_true rfl) dL_law_475 (by rw [hR]; exact ⟨by show k + 1 ≤ 604801; omega, by show n + 6 ≤ 7193636; omega⟩) (fun r1 X1 M1 K1 h1_ => ?_)
    obtain ⟨-, hr1, hX1, hM1, hK1⟩ := h1_.resolve_left (fun q => hc q.1)
    subst X1 M1 K1
    refine g_istore C dL_law_478 (L' := [(6, .int (r1)), (0, .ref b), (1, .ref (gad G 0)), (2, .ref (gad G 42)), (3, .ref (gad G 74)), (4, .ref (gad G 75)), (5, .int (nI (6 * c)))]) rfl (by rw [hL]; decide) ?_
    refine g_aload_n C dL_law_480 3 rfl ?_
    refine g_aload_n C dL_law_481 1 rfl ?_
    refine g_iload C dL_law_482 6 rfl ?_
    refine g_iconst C dL_law_484 (v := 1) (by decide) ?_
    refine g_iadd C dL_law_485 ?_
    refine g_topi (y := nI (6 * c + 1)) (nI_add (6 * c) 1) ?_
    refine g_scr C hX hb hbA (j := 6 * c + 1) (by omega) (by omega) dL_law_486 ?_
    refine g_topi e1 ?_
    refine g_callViW C dL_law_487 (c_X11_inTank _ _ _ _ _ _ _ _ _ _) tw1425 tw1426 tw1427 tw16 tw1428 (rv_X11 C) rfl ⟨by decide +kernel, by decide +kernel, rfl⟩ ⟨rfl, rfl⟩ (by rw [hR]; exact ⟨Nat.le_of_ble_eq_true rfl, Nat.le_of_ble_eq_true rfl⟩) (Nat.le_of_ble_eq_true rfl) (by rw [hR]; exact ⟨by show k + 1 + 0 ≤ 604801; omega, by show n + 6 + 0 ≤ 7193636; omega⟩) (fun r2 X1 M1 K1 h2_ => ?_)
    obtain ⟨er, hX1, hM1, hK1⟩ := h2_
    rw [if_neg hx] at er hM1
    subst X1 M1 K1
    refine g_istore C dL_law_490 (L' := [(7, .int (r2)), (6, .int (r1)), (0, .ref b), (1, .ref (gad G 0)), (2, .ref (gad G 42)), (3, .ref (gad G 74)), (4, .ref (gad G 75)), (5, .int (nI (6 * c)))]) rfl (by rw [hL]; decide) ?_
    refine g_aload_n C dL_law_492 4 rfl ?_
    refine g_callViW C dL_law_493 (c_X11_thrown _ _ _ _ _ _ _ _ _) tw1394 tw1395 tw1396 tw16 tw1397 (rv_X11 C) rfl ⟨by decide +kernel, by decide +kernel, rfl⟩ ⟨rfl, rfl⟩ (by rw [hR]; exact ⟨Nat.le_of_ble_eq_true rfl, Nat.le_of_ble_eq_true rfl⟩) (Nat.le_of_ble_eq_true rfl) (by rw [hR]; exact ⟨by show k + 1 + 0 + 0 ≤ 604801; omega, by show n + 6 + 0 + 0 ≤ 7193636; omega⟩) (fun r3 X1 M1 K1 h3 => ?_)
    obtain ⟨er3, hX1, hM1, hK1⟩ := h3
    subst X1 M1 K1
    have e3 : r3 = xs_b (md_nt p1) := er3.trans (by rfl)
    refine g_iload C dL_law_496 1 rfl ?_
    refine g_icmp_eq C dL_law_498 (tgt := 503) (by decide) (fun q => ?_) (fun q => absurd (e3.trans (hcd.symm.trans hr1.symm)) q)
    refine g_iload C dL_law_503 1 rfl ?_
    refine g_if_ne C dL_law_505 (tgt := 520) (by decide) (fun q => ?_) (fun q => absurd q (fun u => hc (hr1.symm.trans u)))
    refine g_goto C dL_law_520 (tgt := 2415) (by decide) ?_
    exact g_sub [2, 3, 4, 5, 6, 7] rfl (kk _ _ _ _ _ _ _ _ _ _ (I.no _) ⟨by show k + 1 + 0 + 0 ≤ 100 + 2 * (c + 1) + (K.2.1 4 + K.2.1 5); omega, by show n + 6 + 0 + 0 ≤ 2000 + 520 * (c + 1) + (K.2.1 6 + K.2.1 7); omega⟩)

set_option maxHeartbeats 1000000 in
set_option maxRecDepth 100000 in
theorem lc_addStep {G : MC} {b Ln c : Nat} {xs : Nat → Int32} {v z z5 z8 zs : Nat} {X M : XF} {K : KF} {k n : Nat} (E : LawG G b Ln xs) (hcL : 6 * c + 6 ≤ Ln) (I : Inv c v z z5 z8 zs X M K) (hm : rmO c K k n) (kk : LwS G b c) : GH G (WX G X M K) [(0, .ref b), (1, .ref (gad G 0)), (2, .ref (gad G 42)), (3, .ref (gad G 74)), (4, .ref (gad G 75)), (5, .int (nI (6 * c)))] k n 523 [] := by
  obtain ⟨C, hst, hN, hX, hb, hbA, hLn, hR, hL⟩ := E
  have R := I.rel
  have hc5 : c < 512 := by omega
  have hnum := I.num (by omega)
  have hlen := I.len (by omega)
  obtain ⟨hm1, hm2⟩ := hm
  have hk2 := I.k2
  have hzk := I.zk
  have hsN := I.sN
  obtain ⟨p1, e1⟩ : ∃ p, xs (6 * c + 1) = p := ⟨_, rfl⟩
  obtain ⟨p2, e2⟩ : ∃ p, xs (6 * c + 2) = p := ⟨_, rfl⟩
  have hcd : xk_step (nI z8) (X 118 0) p1 p2 = xs_step (M 113 0) (M 102 0) p1 p2 := by rw [R.m8, ← R.st]; exact cd_step R.l8 _ _ _
  by_cases hc : xk_step (nI z8) (X 118 0) p1 p2 = 0
  · have hx : xs_step (M 113 0) (M 102 0) p1 p2 = 0 := hcd.symm.trans hc
    refine g_aload_n C dL_law_523 1 rfl ?_
    refine g_aload_n C dL_law_524 0 rfl ?_
    refine g_iload C dL_law_525 5 rfl ?_
    refine g_iconst C dL_law_527 (v := 1) (by decide) ?_
    refine g_iadd C dL_law_528 ?_
    refine g_topi (y := nI (6 * c + 1)) (nI_add (6 * c) 1) ?_
    refine g_scr C hX hb hbA (j := 6 * c + 1) (by omega) (by omega) dL_law_529 ?_
    refine g_topi e1 ?_
    refine g_aload_n C dL_law_530 0 rfl ?_
    refine g_iload C dL_law_531 5 rfl ?_
    refine g_iconst C dL_law_533 (v := 2) (by decide) ?_
    refine g_iadd C dL_law_534 ?_
    refine g_topi (y := nI (6 * c + 2)) (nI_add (6 * c) 2) ?_
    refine g_scr C hX hb hbA (j := 6 * c + 2) (by omega) (by omega) dL_law_535 ?_
    refine g_topi e2 ?_
    refine g_aload_n C dL_law_536 3 rfl ?_
    refine g_callH C hN (c_L_addStep _ _ _ _ _ _ _ _ _ _ _ _ R.x8 R.l8 hst) tw704 tw705 tw0 tw706 rfl ⟨by decide +kernel, by decide +kernel, rfl⟩ ⟨rfl, rfl⟩ (by rw [hR]; exact ⟨Nat.le_of_ble_eq_true rfl, Nat.le_of_ble_eq_true rfl⟩) (Nat.le_of_ble_eq_true rfl) dL_law_537 (by rw [hR]; exact ⟨by show k + 1 ≤ 604801; omega, by show n + 6 ≤ 7193636; omega⟩) (fun r1 X1 M1 K1 h1_ => ?_)
    obtain ⟨-, rfl, hX1, hM1, hK1⟩ := h1_.resolve_right (fun q => q.1 hc)
    subst X1 M1 K1
    refine g_istore C dL_law_540 (L' := [(6, .int (0)), (0, .ref b), (1, .ref (gad G 0)), (2, .ref (gad G 42)), (3, .ref (gad G 74)), (4, .ref (gad G 75)), (5, .int (nI (6 * c)))]) rfl (by rw [hL]; decide) ?_
    refine g_aload_n C dL_law_542 3 rfl ?_
    refine g_aload_n C dL_law_543 1 rfl ?_
    refine g_iload C dL_law_544 6 rfl ?_
    refine g_iconst C dL_law_546 (v := 1) (by decide) ?_
    refine g_iadd C dL_law_547 ?_
    refine g_topi (y := nI (6 * c + 1)) (nI_add (6 * c) 1) ?_
    refine g_scr C hX hb hbA (j := 6 * c + 1) (by omega) (by omega) dL_law_548 ?_
    refine g_topi e1 ?_
    refine g_aload_n C dL_law_549 1 rfl ?_
    refine g_iload C dL_law_550 6 rfl ?_
    refine g_iconst C dL_law_552 (v := 2) (by decide) ?_
    refine g_iadd C dL_law_553 ?_
    refine g_topi (y := nI (6 * c + 2)) (nI_add (6 * c) 2) ?_
    refine g_scr C hX hb hbA (j := 6 * c + 2) (by omega) (by omega) dL_law_554 ?_
    refine g_topi e2 ?_
    refine g_callViW C dL_law_555 (c_X11_addStep _ _ _ _ _ _ _ _ _ _ _ _ R.m8 R.l8) tw1429 tw1430 tw1431 tw16 tw1432 (rv_X11 C) rfl ⟨by decide +kernel, by decide +kernel, rfl⟩ ⟨rfl, rfl⟩ (by rw [hR]; exact ⟨Nat.le_of_ble_eq_true rfl, Nat.le_of_ble_eq_true rfl⟩) (Nat.le_of_ble_eq_true rfl) (by rw [hR]; exact ⟨by show k + 1 + 0 ≤ 604801; omega, by show n + 6 + 0 ≤ 7193636; omega⟩) (fun r2 X1 M1 K1 h2_ => ?_)
    obtain ⟨er, hX1, hM1, hK1⟩ := h2_
    rw [if_pos hx] at er hM1
    subst X1 M1 K1
    have heq : (nI z8 : Int32) = r2 := (rfl).trans er.symm
    refine g_istore C dL_law_558 (L' := [(7, .int (r2)), (6, .int (0)), (0, .ref b), (1, .ref (gad G 0)), (2, .ref (gad G 42)), (3, .ref (gad G 74)), (4, .ref (gad G 75)), (5, .int (nI (6 * c)))]) rfl (by rw [hL]; decide) ?_
    refine g_aload_n C dL_law_560 4 rfl ?_
    refine g_callViW C dL_law_561 (c_X11_thrown _ _ _ _ _ _ _ _ _) tw1394 tw1395 tw1396 tw16 tw1397 (rv_X11 C) rfl ⟨by decide +kernel, by decide +kernel, rfl⟩ ⟨rfl, rfl⟩ (by rw [hR]; exact ⟨Nat.le_of_ble_eq_true rfl, Nat.le_of_ble_eq_true rfl⟩) (Nat.le_of_ble_eq_true rfl) (by rw [hR]; exact ⟨by show k + 1 + 0 + 0 ≤ 604801; omega, by show n + 6 + 0 + 0 ≤ 7193636; omega⟩) (fun r3 X1 M1 K1 h3 => ?_)
    obtain ⟨er3, hX1, hM1, hK1⟩ := h3
    subst X1 M1 K1
    have e3 : r3 = 0 := er3.trans (by rfl)
    refine g_iload C dL_law_564 1 rfl ?_
    refine g_icmp_eq C dL_law_566 (tgt := 571) (by decide) (fun q => ?_) (fun q => absurd e3 q)
    refine g_iload C dL_law_571 1 rfl ?_
    refine g_if_ne C dL_law_573 (tgt := 588) (by decide) (fun q => absurd q (by decide)) (fun q => ?_)
    refine g_aload_n C dL_law_576 5 rfl ?_
    refine g_iconst C dL_law_577 (v := 0) (by decide) ?_
    refine al_74 C dL_law_578 ?_
    refine g_topl (y := (nI z8 : Int32).toInt64) (kO_at _ _) ?_
    refine g_iload C dL_law_579 0 rfl ?_
    refine g_i2l C dL_law_581 ?_
    refine g_lcmpe C (by rw [heq]) dL_law_582 ?_
    refine g_if_eq C dL_law_583 (tgt := 588) (by decide) (fun q => ?_) (fun q => absurd (by decide) q)
    refine g_goto C dL_law_588 (tgt := 2415) (by decide) ?_
    exact g_sub [2, 3, 4, 5, 6, 7] rfl (kk _ _ _ _ _ _ _ _ _ _ (I.stay _ (o_step R p1 p2 hc) rfl rfl rfl) ⟨by show k + 1 + 0 + 0 ≤ 100 + 2 * (c + 1) + (K.2.1 4 + K.2.1 5); omega, by show n + 6 + 0 + 0 ≤ 2000 + 520 * (c + 1) + (K.2.1 6 + K.2.1 7); omega⟩)
  · have hx : ¬ xs_step (M 113 0) (M 102 0) p1 p2 = 0 := fun q => hc (hcd.trans q)
    refine g_aload_n C dL_law_523 1 rfl ?_
    refine g_aload_n C dL_law_524 0 rfl ?_
    refine g_iload C dL_law_525 5 rfl ?_
    refine g_iconst C dL_law_527 (v := 1) (by decide) ?_
    refine g_iadd C dL_law_528 ?_
    refine g_topi (y := nI (6 * c + 1)) (nI_add (6 * c) 1) ?_
    refine g_scr C hX hb hbA (j := 6 * c + 1) (by omega) (by omega) dL_law_529 ?_
    refine g_topi e1 ?_
    refine g_aload_n C dL_law_530 0 rfl ?_
    refine g_iload C dL_law_531 5 rfl ?_
    refine g_iconst C dL_law_533 (v := 2) (by decide) ?_
    refine g_iadd C dL_law_534 ?_
    refine g_topi (y := nI (6 * c + 2)) (nI_add (6 * c) 2) ?_
    refine g_scr C hX hb hbA (j := 6 * c + 2) (by omega) (by omega) dL_law_535 ?_
    refine g_topi e2 ?_
    refine g_aload_n C dL_law_536 3 rfl ?_
    refine g_callH C hN (c_L_addStep _ _ _ _ _ _ _ _ _ _ _ _ R.x8 R.l8 hst) tw704 tw705 tw0 tw706 rfl ⟨by decide +kernel, by decide +kernel, rfl⟩ ⟨rfl, rfl⟩ (by rw [hR]; exact ⟨Nat.le_of_ble_eq_true rfl, Nat.le_of_ble_eq_true rfl⟩) (Nat.le_of_ble_eq_true rfl) dL_law_537 (by rw [hR]; exact ⟨by show k + 1 ≤ 604801; omega, by show n + 6 ≤ 7193636; omega⟩) (fun r1 X1 M1 K1 h1_ => ?_)
    obtain ⟨-, hr1, hX1, hM1, hK1⟩ := h1_.resolve_left (fun q => hc q.1)
    subst X1 M1 K1
    refine g_istore C dL_law_540 (L' := [(6, .int (r1)), (0, .ref b), (1, .ref (gad G 0)), (2, .ref (gad G 42)), (3, .ref (gad G 74)), (4, .ref (gad G 75)), (5, .int (nI (6 * c)))]) rfl (by rw [hL]; decide) ?_
    refine g_aload_n C dL_law_542 3 rfl ?_
    refine g_aload_n C dL_law_543 1 rfl ?_
    refine g_iload C dL_law_544 6 rfl ?_
    refine g_iconst C dL_law_546 (v := 1) (by decide) ?_
    refine g_iadd C dL_law_547 ?_
    refine g_topi (y := nI (6 * c + 1)) (nI_add (6 * c) 1) ?_
    refine g_scr C hX hb hbA (j := 6 * c + 1) (by omega) (by omega) dL_law_548 ?_
    refine g_topi e1 ?_
    refine g_aload_n C dL_law_549 1 rfl ?_
    refine g_iload C dL_law_550 6 rfl ?_
    refine g_iconst C dL_law_552 (v := 2) (by decide) ?_
    refine g_iadd C dL_law_553 ?_
    refine g_topi (y := nI (6 * c + 2)) (nI_add (6 * c) 2) ?_
    refine g_scr C hX hb hbA (j := 6 * c + 2) (by omega) (by omega) dL_law_554 ?_
    refine g_topi e2 ?_
    refine g_callViW C dL_law_555 (c_X11_addStep _ _ _ _ _ _ _ _ _ _ _ _ R.m8 R.l8) tw1429 tw1430 tw1431 tw16 tw1432 (rv_X11 C) rfl ⟨by decide +kernel, by decide +kernel, rfl⟩ ⟨rfl, rfl⟩ (by rw [hR]; exact ⟨Nat.le_of_ble_eq_true rfl, Nat.le_of_ble_eq_true rfl⟩) (Nat.le_of_ble_eq_true rfl) (by rw [hR]; exact ⟨by show k + 1 + 0 ≤ 604801; omega, by show n + 6 + 0 ≤ 7193636; omega⟩) (fun r2 X1 M1 K1 h2_ => ?_)
    obtain ⟨er, hX1, hM1, hK1⟩ := h2_
    rw [if_neg hx] at er hM1
    subst X1 M1 K1
    refine g_istore C dL_law_558 (L' := [(7, .int (r2)), (6, .int (r1)), (0, .ref b), (1, .ref (gad G 0)), (2, .ref (gad G 42)), (3, .ref (gad G 74)), (4, .ref (gad G 75)), (5, .int (nI (6 * c)))]) rfl (by rw [hL]; decide) ?_
    refine g_aload_n C dL_law_560 4 rfl ?_
    refine g_callViW C dL_law_561 (c_X11_thrown _ _ _ _ _ _ _ _ _) tw1394 tw1395 tw1396 tw16 tw1397 (rv_X11 C) rfl ⟨by decide +kernel, by decide +kernel, rfl⟩ ⟨rfl, rfl⟩ (by rw [hR]; exact ⟨Nat.le_of_ble_eq_true rfl, Nat.le_of_ble_eq_true rfl⟩) (Nat.le_of_ble_eq_true rfl) (by rw [hR]; exact ⟨by show k + 1 + 0 + 0 ≤ 604801; omega, by show n + 6 + 0 + 0 ≤ 7193636; omega⟩) (fun r3 X1 M1 K1 h3 => ?_)
    obtain ⟨er3, hX1, hM1, hK1⟩ := h3
    subst X1 M1 K1
    have e3 : r3 = xs_step (M 113 0) (M 102 0) p1 p2 := er3.trans (by rfl)
    refine g_iload C dL_law_564 1 rfl ?_
    refine g_icmp_eq C dL_law_566 (tgt := 571) (by decide) (fun q => ?_) (fun q => absurd (e3.trans (hcd.symm.trans hr1.symm)) q)
    refine g_iload C dL_law_571 1 rfl ?_
    refine g_if_ne C dL_law_573 (tgt := 588) (by decide) (fun q => ?_) (fun q => absurd q (fun u => hc (hr1.symm.trans u)))
    refine g_goto C dL_law_588 (tgt := 2415) (by decide) ?_
    exact g_sub [2, 3, 4, 5, 6, 7] rfl (kk _ _ _ _ _ _ _ _ _ _ (I.no _) ⟨by show k + 1 + 0 + 0 ≤ 100 + 2 * (c + 1) + (K.2.1 4 + K.2.1 5); omega, by show n + 6 + 0 + 0 ≤ 2000 + 520 * (c + 1) + (K.2.1 6 + K.2.1 7); omega⟩)

set_option maxHeartbeats 1000000 in
set_option maxRecDepth 100000 in
theorem lc_setAfter {G : MC} {b Ln c : Nat} {xs : Nat → Int32} {v z z5 z8 zs : Nat} {X M : XF} {K : KF} {k n : Nat} (E : LawG G b Ln xs) (hcL : 6 * c + 6 ≤ Ln) (I : Inv c v z z5 z8 zs X M K) (hm : rmO c K k n) (kk : LwS G b c) : GH G (WX G X M K) [(0, .ref b), (1, .ref (gad G 0)), (2, .ref (gad G 42)), (3, .ref (gad G 74)), (4, .ref (gad G 75)), (5, .int (nI (6 * c)))] k n 591 [] := by
  obtain ⟨C, hst, hN, hX, hb, hbA, hLn, hR, hL⟩ := E
  have R := I.rel
  have hc5 : c < 512 := by omega
  have hnum := I.num (by omega)
  have hlen := I.len (by omega)
  obtain ⟨hm1, hm2⟩ := hm
  have hk2 := I.k2
  have hzk := I.zk
  have hsN := I.sN
  obtain ⟨p1, e1⟩ : ∃ p, xs (6 * c + 1) = p := ⟨_, rfl⟩
  obtain ⟨p2, e2⟩ : ∃ p, xs (6 * c + 2) = p := ⟨_, rfl⟩
  have hcd : xk_after (nI z8) (X 118 0) p1 p2 = xs_after (M 113 0) (M 102 0) p1 p2 := by rw [R.m8, ← R.st]; exact cd_after R.l8 _ _ _
  by_cases hc : xk_after (nI z8) (X 118 0) p1 p2 = 0
  · have hx : xs_after (M 113 0) (M 102 0) p1 p2 = 0 := hcd.symm.trans hc
    refine g_aload_n C dL_law_591 1 rfl ?_
    refine g_aload_n C dL_law_592 0 rfl ?_
    refine g_iload C dL_law_593 5 rfl ?_
    refine g_iconst C dL_law_595 (v := 1) (by decide) ?_
    refine g_iadd C dL_law_596 ?_
    refine g_topi (y := nI (6 * c + 1)) (nI_add (6 * c) 1) ?_
    refine g_scr C hX hb hbA (j := 6 * c + 1) (by omega) (by omega) dL_law_597 ?_
    refine g_topi e1 ?_
    refine g_aload_n C dL_law_598 0 rfl ?_
    refine g_iload C dL_law_599 5 rfl ?_
    refine g_iconst C dL_law_601 (v := 2) (by decide) ?_
    refine g_iadd C dL_law_602 ?_
    refine g_topi (y := nI (6 * c + 2)) (nI_add (6 * c) 2) ?_
    refine g_scr C hX hb hbA (j := 6 * c + 2) (by omega) (by omega) dL_law_603 ?_
    refine g_topi e2 ?_
    refine g_aload_n C dL_law_604 3 rfl ?_
    refine g_callH C hN (c_L_setAfter _ _ _ _ _ _ _ _ _ _ _ _ R.x8 R.l8 hst) tw737 tw738 tw0 tw739 rfl ⟨by decide +kernel, by decide +kernel, rfl⟩ ⟨rfl, rfl⟩ (by rw [hR]; exact ⟨Nat.le_of_ble_eq_true rfl, Nat.le_of_ble_eq_true rfl⟩) (Nat.le_of_ble_eq_true rfl) dL_law_605 (by rw [hR]; exact ⟨by show k + 1 ≤ 604801; omega, by show n + 6 ≤ 7193636; omega⟩) (fun r1 X1 M1 K1 h1_ => ?_)
    obtain ⟨-, rfl, hX1, hM1, hK1⟩ := h1_.resolve_right (fun q => q.1 hc)
    subst X1 M1 K1
    refine g_istore C dL_law_608 (L' := [(6, .int (0)), (0, .ref b), (1, .ref (gad G 0)), (2, .ref (gad G 42)), (3, .ref (gad G 74)), (4, .ref (gad G 75)), (5, .int (nI (6 * c)))]) rfl (by rw [hL]; decide) ?_
    refine g_aload_n C dL_law_610 3 rfl ?_
    refine g_aload_n C dL_law_611 1 rfl ?_
    refine g_iload C dL_law_612 6 rfl ?_
    refine g_iconst C dL_law_614 (v := 1) (by decide) ?_
    refine g_iadd C dL_law_615 ?_
    refine g_topi (y := nI (6 * c + 1)) (nI_add (6 * c) 1) ?_
    refine g_scr C hX hb hbA (j := 6 * c + 1) (by omega) (by omega) dL_law_616 ?_
    refine g_topi e1 ?_
    refine g_aload_n C dL_law_617 1 rfl ?_
    refine g_iload C dL_law_618 6 rfl ?_
    refine g_iconst C dL_law_620 (v := 2) (by decide) ?_
    refine g_iadd C dL_law_621 ?_
    refine g_topi (y := nI (6 * c + 2)) (nI_add (6 * c) 2) ?_
    refine g_scr C hX hb hbA (j := 6 * c + 2) (by omega) (by omega) dL_law_622 ?_
    refine g_topi e2 ?_
    refine g_callViW C dL_law_623 (c_X11_setAfter _ _ _ _ _ _ _ _ _ _ _ _ R.m8 R.l8) tw1444 tw1445 tw1446 tw16 tw1447 (rv_X11 C) rfl ⟨by decide +kernel, by decide +kernel, rfl⟩ ⟨rfl, rfl⟩ (by rw [hR]; exact ⟨Nat.le_of_ble_eq_true rfl, Nat.le_of_ble_eq_true rfl⟩) (Nat.le_of_ble_eq_true rfl) (by rw [hR]; exact ⟨by show k + 1 + 0 ≤ 604801; omega, by show n + 6 + 0 ≤ 7193636; omega⟩) (fun r2 X1 M1 K1 h2_ => ?_)
    obtain ⟨er, hX1, hM1, hK1⟩ := h2_
    rw [if_pos hx] at er hM1
    subst X1 M1 K1
    have heq : (bcnt (X 11 p1.toNatClampNeg ||| (1 <<< (p2 &&& 31))) : Int32) = r2 := ((o_after R p1 p2 hc).1).trans er.symm
    refine g_istore C dL_law_626 (L' := [(7, .int (r2)), (6, .int (0)), (0, .ref b), (1, .ref (gad G 0)), (2, .ref (gad G 42)), (3, .ref (gad G 74)), (4, .ref (gad G 75)), (5, .int (nI (6 * c)))]) rfl (by rw [hL]; decide) ?_
    refine g_aload_n C dL_law_628 4 rfl ?_
    refine g_callViW C dL_law_629 (c_X11_thrown _ _ _ _ _ _ _ _ _) tw1394 tw1395 tw1396 tw16 tw1397 (rv_X11 C) rfl ⟨by decide +kernel, by decide +kernel, rfl⟩ ⟨rfl, rfl⟩ (by rw [hR]; exact ⟨Nat.le_of_ble_eq_true rfl, Nat.le_of_ble_eq_true rfl⟩) (Nat.le_of_ble_eq_true rfl) (by rw [hR]; exact ⟨by show k + 1 + 0 + 0 ≤ 604801; omega, by show n + 6 + 0 + 0 ≤ 7193636; omega⟩) (fun r3 X1 M1 K1 h3 => ?_)
    obtain ⟨er3, hX1, hM1, hK1⟩ := h3
    subst X1 M1 K1
    have e3 : r3 = 0 := er3.trans (by rfl)
    refine g_iload C dL_law_632 1 rfl ?_
    refine g_icmp_eq C dL_law_634 (tgt := 639) (by decide) (fun q => ?_) (fun q => absurd e3 q)
    refine g_iload C dL_law_639 1 rfl ?_
    refine g_if_ne C dL_law_641 (tgt := 656) (by decide) (fun q => absurd q (by decide)) (fun q => ?_)
    refine g_aload_n C dL_law_644 5 rfl ?_
    refine g_iconst C dL_law_645 (v := 0) (by decide) ?_
    refine al_74 C dL_law_646 ?_
    refine g_topl (y := (bcnt (X 11 p1.toNatClampNeg ||| (1 <<< (p2 &&& 31))) : Int32).toInt64) (kO_at _ _) ?_
    refine g_iload C dL_law_647 0 rfl ?_
    refine g_i2l C dL_law_649 ?_
    refine g_lcmpe C (by rw [heq]) dL_law_650 ?_
    refine g_if_eq C dL_law_651 (tgt := 656) (by decide) (fun q => ?_) (fun q => absurd (by decide) q)
    refine g_goto C dL_law_656 (tgt := 2415) (by decide) ?_
    exact g_sub [2, 3, 4, 5, 6, 7] rfl (kk _ _ _ _ _ _ _ _ _ _ (I.stay _ (o_after R p1 p2 hc).2 rfl rfl rfl) ⟨by show k + 1 + 0 + 0 ≤ 100 + 2 * (c + 1) + (K.2.1 4 + K.2.1 5); omega, by show n + 6 + 0 + 0 ≤ 2000 + 520 * (c + 1) + (K.2.1 6 + K.2.1 7); omega⟩)
  · have hx : ¬ xs_after (M 113 0) (M 102 0) p1 p2 = 0 := fun q => hc (hcd.trans q)
    refine g_aload_n C dL_law_591 1 rfl ?_
    refine g_aload_n C dL_law_592 0 rfl ?_
    refine g_iload C dL_law_593 5 rfl ?_
    refine g_iconst C dL_law_595 (v := 1) (by decide) ?_
    refine g_iadd C dL_law_596 ?_
    refine g_topi (y := nI (6 * c + 1)) (nI_add (6 * c) 1) ?_
    refine g_scr C hX hb hbA (j := 6 * c + 1) (by omega) (by omega) dL_law_597 ?_
    refine g_topi e1 ?_
    refine g_aload_n C dL_law_598 0 rfl ?_
    refine g_iload C dL_law_599 5 rfl ?_
    refine g_iconst C dL_law_601 (v := 2) (by decide) ?_
    refine g_iadd C dL_law_602 ?_
    refine g_topi (y := nI (6 * c + 2)) (nI_add (6 * c) 2) ?_
    refine g_scr C hX hb hbA (j := 6 * c + 2) (by omega) (by omega) dL_law_603 ?_
    refine g_topi e2 ?_
    refine g_aload_n C dL_law_604 3 rfl ?_
    refine g_callH C hN (c_L_setAfter _ _ _ _ _ _ _ _ _ _ _ _ R.x8 R.l8 hst) tw737 tw738 tw0 tw739 rfl ⟨by decide +kernel, by decide +kernel, rfl⟩ ⟨rfl, rfl⟩ (by rw [hR]; exact ⟨Nat.le_of_ble_eq_true rfl, Nat.le_of_ble_eq_true rfl⟩) (Nat.le_of_ble_eq_true rfl) dL_law_605 (by rw [hR]; exact ⟨by show k + 1 ≤ 604801; omega, by show n + 6 ≤ 7193636; omega⟩) (fun r1 X1 M1 K1 h1_ => ?_)
    obtain ⟨-, hr1, hX1, hM1, hK1⟩ := h1_.resolve_left (fun q => hc q.1)
    subst X1 M1 K1
    refine g_istore C dL_law_608 (L' := [(6, .int (r1)), (0, .ref b), (1, .ref (gad G 0)), (2, .ref (gad G 42)), (3, .ref (gad G 74)), (4, .ref (gad G 75)), (5, .int (nI (6 * c)))]) rfl (by rw [hL]; decide) ?_
    refine g_aload_n C dL_law_610 3 rfl ?_
    refine g_aload_n C dL_law_611 1 rfl ?_
    refine g_iload C dL_law_612 6 rfl ?_
    refine g_iconst C dL_law_614 (v := 1) (by decide) ?_
    refine g_iadd C dL_law_615 ?_
    refine g_topi (y := nI (6 * c + 1)) (nI_add (6 * c) 1) ?_
    refine g_scr C hX hb hbA (j := 6 * c + 1) (by omega) (by omega) dL_law_616 ?_
    refine g_topi e1 ?_
    refine g_aload_n C dL_law_617 1 rfl ?_
    refine g_iload C dL_law_618 6 rfl ?_
    refine g_iconst C dL_law_620 (v := 2) (by decide) ?_
    refine g_iadd C dL_law_621 ?_
    refine g_topi (y := nI (6 * c + 2)) (nI_add (6 * c) 2) ?_
    refine g_scr C hX hb hbA (j := 6 * c + 2) (by omega) (by omega) dL_law_622 ?_
    refine g_topi e2 ?_
    refine g_callViW C dL_law_623 (c_X11_setAfter _ _ _ _ _ _ _ _ _ _ _ _ R.m8 R.l8) tw1444 tw1445 tw1446 tw16 tw1447 (rv_X11 C) rfl ⟨by decide +kernel, by decide +kernel, rfl⟩ ⟨rfl, rfl⟩ (by rw [hR]; exact ⟨Nat.le_of_ble_eq_true rfl, Nat.le_of_ble_eq_true rfl⟩) (Nat.le_of_ble_eq_true rfl) (by rw [hR]; exact ⟨by show k + 1 + 0 ≤ 604801; omega, by show n + 6 + 0 ≤ 7193636; omega⟩) (fun r2 X1 M1 K1 h2_ => ?_)
    obtain ⟨er, hX1, hM1, hK1⟩ := h2_
    rw [if_neg hx] at er hM1
    subst X1 M1 K1
    refine g_istore C dL_law_626 (L' := [(7, .int (r2)), (6, .int (r1)), (0, .ref b), (1, .ref (gad G 0)), (2, .ref (gad G 42)), (3, .ref (gad G 74)), (4, .ref (gad G 75)), (5, .int (nI (6 * c)))]) rfl (by rw [hL]; decide) ?_
    refine g_aload_n C dL_law_628 4 rfl ?_
    refine g_callViW C dL_law_629 (c_X11_thrown _ _ _ _ _ _ _ _ _) tw1394 tw1395 tw1396 tw16 tw1397 (rv_X11 C) rfl ⟨by decide +kernel, by decide +kernel, rfl⟩ ⟨rfl, rfl⟩ (by rw [hR]; exact ⟨Nat.le_of_ble_eq_true rfl, Nat.le_of_ble_eq_true rfl⟩) (Nat.le_of_ble_eq_true rfl) (by rw [hR]; exact ⟨by show k + 1 + 0 + 0 ≤ 604801; omega, by show n + 6 + 0 + 0 ≤ 7193636; omega⟩) (fun r3 X1 M1 K1 h3 => ?_)
    obtain ⟨er3, hX1, hM1, hK1⟩ := h3
    subst X1 M1 K1
    have e3 : r3 = xs_after (M 113 0) (M 102 0) p1 p2 := er3.trans (by rfl)
    refine g_iload C dL_law_632 1 rfl ?_
    refine g_icmp_eq C dL_law_634 (tgt := 639) (by decide) (fun q => ?_) (fun q => absurd (e3.trans (hcd.symm.trans hr1.symm)) q)
    refine g_iload C dL_law_639 1 rfl ?_
    refine g_if_ne C dL_law_641 (tgt := 656) (by decide) (fun q => ?_) (fun q => absurd q (fun u => hc (hr1.symm.trans u)))
    refine g_goto C dL_law_656 (tgt := 2415) (by decide) ?_
    exact g_sub [2, 3, 4, 5, 6, 7] rfl (kk _ _ _ _ _ _ _ _ _ _ (I.no _) ⟨by show k + 1 + 0 + 0 ≤ 100 + 2 * (c + 1) + (K.2.1 4 + K.2.1 5); omega, by show n + 6 + 0 + 0 ≤ 2000 + 520 * (c + 1) + (K.2.1 6 + K.2.1 7); omega⟩)

set_option maxHeartbeats 1000000 in
set_option maxRecDepth 100000 in
theorem lc_stepState {G : MC} {b Ln c : Nat} {xs : Nat → Int32} {v z z5 z8 zs : Nat} {X M : XF} {K : KF} {k n : Nat} (E : LawG G b Ln xs) (hcL : 6 * c + 6 ≤ Ln) (I : Inv c v z z5 z8 zs X M K) (hm : rmO c K k n) (kk : LwS G b c) : GH G (WX G X M K) [(0, .ref b), (1, .ref (gad G 0)), (2, .ref (gad G 42)), (3, .ref (gad G 74)), (4, .ref (gad G 75)), (5, .int (nI (6 * c)))] k n 659 [] := by
  obtain ⟨C, hst, hN, hX, hb, hbA, hLn, hR, hL⟩ := E
  have R := I.rel
  have hc5 : c < 512 := by omega
  have hnum := I.num (by omega)
  have hlen := I.len (by omega)
  obtain ⟨hm1, hm2⟩ := hm
  have hk2 := I.k2
  have hzk := I.zk
  have hsN := I.sN
  obtain ⟨p1, e1⟩ : ∃ p, xs (6 * c + 1) = p := ⟨_, rfl⟩
  have hcd : xk_b p1 (nI z8) = xs_b (md_no p1 (M 113 0)) := by rw [R.m8]; exact cd_bz (by have := R.l8; omega) _
  by_cases hc : xk_b p1 (nI z8) = 0
  · have hx : xs_b (md_no p1 (M 113 0)) = 0 := hcd.symm.trans hc
    refine g_aload_n C dL_law_659 1 rfl ?_
    refine g_aload_n C dL_law_660 0 rfl ?_
    refine g_iload C dL_law_661 5 rfl ?_
    refine g_iconst C dL_law_663 (v := 1) (by decide) ?_
    refine g_iadd C dL_law_664 ?_
    refine g_topi (y := nI (6 * c + 1)) (nI_add (6 * c) 1) ?_
    refine g_scr C hX hb hbA (j := 6 * c + 1) (by omega) (by omega) dL_law_665 ?_
    refine g_topi e1 ?_
    refine g_aload_n C dL_law_666 3 rfl ?_
    refine g_callH C hN (c_L_stepState _ _ _ _ _ _ _ _ _ _ _ R.x8 R.l8 R.ch12 hst) tw793 tw794 tw0 tw795 rfl ⟨by decide +kernel, by decide +kernel, rfl⟩ ⟨rfl, rfl⟩ (by rw [hR]; exact ⟨Nat.le_of_ble_eq_true rfl, Nat.le_of_ble_eq_true rfl⟩) (Nat.le_of_ble_eq_true rfl) dL_law_667 (by rw [hR]; exact ⟨by show k + 1 ≤ 604801; omega, by show n + 6 ≤ 7193636; omega⟩) (fun r1 X1 M1 K1 h1_ => ?_)
    obtain ⟨-, rfl, hX1, hM1, hK1⟩ := h1_.resolve_right (fun q => q.1 hc)
    subst X1 M1 K1
    refine g_istore C dL_law_670 (L' := [(6, .int (0)), (0, .ref b), (1, .ref (gad G 0)), (2, .ref (gad G 42)), (3, .ref (gad G 74)), (4, .ref (gad G 75)), (5, .int (nI (6 * c)))]) rfl (by rw [hL]; decide) ?_
    refine g_aload_n C dL_law_672 3 rfl ?_
    refine g_aload_n C dL_law_673 1 rfl ?_
    refine g_iload C dL_law_674 6 rfl ?_
    refine g_iconst C dL_law_676 (v := 1) (by decide) ?_
    refine g_iadd C dL_law_677 ?_
    refine g_topi (y := nI (6 * c + 1)) (nI_add (6 * c) 1) ?_
    refine g_scr C hX hb hbA (j := 6 * c + 1) (by omega) (by omega) dL_law_678 ?_
    refine g_topi e1 ?_
    refine g_callViW C dL_law_679 (c_X11_stepState _ _ _ _ _ _ _ _ _ _ _ R.m8 R.l8 R.ch51) tw1453 tw1454 tw1455 tw16 tw1456 (rv_X11 C) rfl ⟨by decide +kernel, by decide +kernel, rfl⟩ ⟨rfl, rfl⟩ (by rw [hR]; exact ⟨Nat.le_of_ble_eq_true rfl, Nat.le_of_ble_eq_true rfl⟩) (Nat.le_of_ble_eq_true rfl) (by rw [hR]; exact ⟨by show k + 1 + 0 ≤ 604801; omega, by show n + 6 + 0 ≤ 7193636; omega⟩) (fun r2 X1 M1 K1 h2_ => ?_)
    obtain ⟨er, hX1, hM1, hK1⟩ := h2_
    rw [if_pos hx] at er hM1
    subst X1 M1 K1
    have heq : (X 12 p1.toNatClampNeg : Int32) = r2 := (congrFun R.2.1.2.2.2.2.1 _).trans er.symm
    refine g_istore C dL_law_682 (L' := [(7, .int (r2)), (6, .int (0)), (0, .ref b), (1, .ref (gad G 0)), (2, .ref (gad G 42)), (3, .ref (gad G 74)), (4, .ref (gad G 75)), (5, .int (nI (6 * c)))]) rfl (by rw [hL]; decide) ?_
    refine g_aload_n C dL_law_684 4 rfl ?_
    refine g_callViW C dL_law_685 (c_X11_thrown _ _ _ _ _ _ _ _ _) tw1394 tw1395 tw1396 tw16 tw1397 (rv_X11 C) rfl ⟨by decide +kernel, by decide +kernel, rfl⟩ ⟨rfl, rfl⟩ (by rw [hR]; exact ⟨Nat.le_of_ble_eq_true rfl, Nat.le_of_ble_eq_true rfl⟩) (Nat.le_of_ble_eq_true rfl) (by rw [hR]; exact ⟨by show k + 1 + 0 + 0 ≤ 604801; omega, by show n + 6 + 0 + 0 ≤ 7193636; omega⟩) (fun r3 X1 M1 K1 h3 => ?_)
    obtain ⟨er3, hX1, hM1, hK1⟩ := h3
    subst X1 M1 K1
    have e3 : r3 = 0 := er3.trans (by rfl)
    refine g_iload C dL_law_688 1 rfl ?_
    refine g_icmp_eq C dL_law_690 (tgt := 695) (by decide) (fun q => ?_) (fun q => absurd e3 q)
    refine g_iload C dL_law_695 1 rfl ?_
    refine g_if_ne C dL_law_697 (tgt := 712) (by decide) (fun q => absurd q (by decide)) (fun q => ?_)
    refine g_aload_n C dL_law_700 5 rfl ?_
    refine g_iconst C dL_law_701 (v := 0) (by decide) ?_
    refine al_74 C dL_law_702 ?_
    refine g_topl (y := (X 12 p1.toNatClampNeg : Int32).toInt64) (kO_at _ _) ?_
    refine g_iload C dL_law_703 0 rfl ?_
    refine g_i2l C dL_law_705 ?_
    refine g_lcmpe C (by rw [heq]) dL_law_706 ?_
    refine g_if_eq C dL_law_707 (tgt := 712) (by decide) (fun q => ?_) (fun q => absurd (by decide) q)
    refine g_goto C dL_law_712 (tgt := 2415) (by decide) ?_
    exact g_sub [2, 3, 4, 5, 6, 7] rfl (kk _ _ _ _ _ _ _ _ _ _ (I.stay _ (R.thr 0) rfl rfl rfl) ⟨by show k + 1 + 0 + 0 ≤ 100 + 2 * (c + 1) + (K.2.1 4 + K.2.1 5); omega, by show n + 6 + 0 + 0 ≤ 2000 + 520 * (c + 1) + (K.2.1 6 + K.2.1 7); omega⟩)
  · have hx : ¬ xs_b (md_no p1 (M 113 0)) = 0 := fun q => hc (hcd.trans q)
    refine g_aload_n C dL_law_659 1 rfl ?_
    refine g_aload_n C dL_law_660 0 rfl ?_
    refine g_iload C dL_law_661 5 rfl ?_
    refine g_iconst C dL_law_663 (v := 1) (by decide) ?_
    refine g_iadd C dL_law_664 ?_
    refine g_topi (y := nI (6 * c + 1)) (nI_add (6 * c) 1) ?_
    refine g_scr C hX hb hbA (j := 6 * c + 1) (by omega) (by omega) dL_law_665 ?_
    refine g_topi e1 ?_
    refine g_aload_n C dL_law_666 3 rfl ?_
    refine g_callH C hN (c_L_stepState _ _ _ _ _ _ _ _ _ _ _ R.x8 R.l8 R.ch12 hst) tw793 tw794 tw0 tw795 rfl ⟨by decide +kernel, by decide +kernel, rfl⟩ ⟨rfl, rfl⟩ (by rw [hR]; exact ⟨Nat.le_of_ble_eq_true rfl, Nat.le_of_ble_eq_true rfl⟩) (Nat.le_of_ble_eq_true rfl) dL_law_667 (by rw [hR]; exact ⟨by show k + 1 ≤ 604801; omega, by show n + 6 ≤ 7193636; omega⟩) (fun r1 X1 M1 K1 h1_ => ?_)
    obtain ⟨-, hr1, hX1, hM1, hK1⟩ := h1_.resolve_left (fun q => hc q.1)
    subst X1 M1 K1
    refine g_istore C dL_law_670 (L' := [(6, .int (r1)), (0, .ref b), (1, .ref (gad G 0)), (2, .ref (gad G 42)), (3, .ref (gad G 74)), (4, .ref (gad G 75)), (5, .int (nI (6 * c)))]) rfl (by rw [hL]; decide) ?_
    refine g_aload_n C dL_law_672 3 rfl ?_
    refine g_aload_n C dL_law_673 1 rfl ?_
    refine g_iload C dL_law_674 6 rfl ?_
    refine g_iconst C dL_law_676 (v := 1) (by decide) ?_
    refine g_iadd C dL_law_677 ?_
    refine g_topi (y := nI (6 * c + 1)) (nI_add (6 * c) 1) ?_
    refine g_scr C hX hb hbA (j := 6 * c + 1) (by omega) (by omega) dL_law_678 ?_
    refine g_topi e1 ?_
    refine g_callViW C dL_law_679 (c_X11_stepState _ _ _ _ _ _ _ _ _ _ _ R.m8 R.l8 R.ch51) tw1453 tw1454 tw1455 tw16 tw1456 (rv_X11 C) rfl ⟨by decide +kernel, by decide +kernel, rfl⟩ ⟨rfl, rfl⟩ (by rw [hR]; exact ⟨Nat.le_of_ble_eq_true rfl, Nat.le_of_ble_eq_true rfl⟩) (Nat.le_of_ble_eq_true rfl) (by rw [hR]; exact ⟨by show k + 1 + 0 ≤ 604801; omega, by show n + 6 + 0 ≤ 7193636; omega⟩) (fun r2 X1 M1 K1 h2_ => ?_)
    obtain ⟨er, hX1, hM1, hK1⟩ := h2_
    rw [if_neg hx] at er hM1
    subst X1 M1 K1
    refine g_istore C dL_law_682 (L' := [(7, .int (r2)), (6, .int (r1)), (0, .ref b), (1, .ref (gad G 0)), (2, .ref (gad G 42)), (3, .ref (gad G 74)), (4, .ref (gad G 75)), (5, .int (nI (6 * c)))]) rfl (by rw [hL]; decide) ?_
    refine g_aload_n C dL_law_684 4 rfl ?_
    refine g_callViW C dL_law_685 (c_X11_thrown _ _ _ _ _ _ _ _ _) tw1394 tw1395 tw1396 tw16 tw1397 (rv_X11 C) rfl ⟨by decide +kernel, by decide +kernel, rfl⟩ ⟨rfl, rfl⟩ (by rw [hR]; exact ⟨Nat.le_of_ble_eq_true rfl, Nat.le_of_ble_eq_true rfl⟩) (Nat.le_of_ble_eq_true rfl) (by rw [hR]; exact ⟨by show k + 1 + 0 + 0 ≤ 604801; omega, by show n + 6 + 0 + 0 ≤ 7193636; omega⟩) (fun r3 X1 M1 K1 h3 => ?_)
    obtain ⟨er3, hX1, hM1, hK1⟩ := h3
    subst X1 M1 K1
    have e3 : r3 = xs_b (md_no p1 (M 113 0)) := er3.trans (by rfl)
    refine g_iload C dL_law_688 1 rfl ?_
    refine g_icmp_eq C dL_law_690 (tgt := 695) (by decide) (fun q => ?_) (fun q => absurd (e3.trans (hcd.symm.trans hr1.symm)) q)
    refine g_iload C dL_law_695 1 rfl ?_
    refine g_if_ne C dL_law_697 (tgt := 712) (by decide) (fun q => ?_) (fun q => absurd q (fun u => hc (hr1.symm.trans u)))
    refine g_goto C dL_law_712 (tgt := 2415) (by decide) ?_
    exact g_sub [2, 3, 4, 5, 6, 7] rfl (kk _ _ _ _ _ _ _ _ _ _ (I.no _) ⟨by show k + 1 + 0 + 0 ≤ 100 + 2 * (c + 1) + (K.2.1 4 + K.2.1 5); omega, by show n + 6 + 0 + 0 ≤ 2000 + 520 * (c + 1) + (K.2.1 6 + K.2.1 7); omega⟩)

set_option maxHeartbeats 1000000 in
set_option maxRecDepth 100000 in
theorem lc_addMark {G : MC} {b Ln c : Nat} {xs : Nat → Int32} {v z z5 z8 zs : Nat} {X M : XF} {K : KF} {k n : Nat} (E : LawG G b Ln xs) (hcL : 6 * c + 6 ≤ Ln) (I : Inv c v z z5 z8 zs X M K) (hm : rmO c K k n) (kk : LwS G b c) : GH G (WX G X M K) [(0, .ref b), (1, .ref (gad G 0)), (2, .ref (gad G 42)), (3, .ref (gad G 74)), (4, .ref (gad G 75)), (5, .int (nI (6 * c)))] k n 715 [] := by
  obtain ⟨C, hst, hN, hX, hb, hbA, hLn, hR, hL⟩ := E
  have R := I.rel
  have hc5 : c < 512 := by omega
  have hnum := I.num (by omega)
  have hlen := I.len (by omega)
  obtain ⟨hm1, hm2⟩ := hm
  have hk2 := I.k2
  have hzk := I.zk
  have hsN := I.sN
  obtain ⟨p1, e1⟩ : ∃ p, xs (6 * c + 1) = p := ⟨_, rfl⟩
  obtain ⟨p2, e2⟩ : ∃ p, xs (6 * c + 2) = p := ⟨_, rfl⟩
  obtain ⟨p3, e3⟩ : ∃ p, xs (6 * c + 3) = p := ⟨_, rfl⟩
  have hcd : xk_mark (X 14) z5 (X 102 0) (X 118 0) p1 p2 p3 = xs_mark (M 53) z5 (M 113 0) (M 102 0) p1 p2 p3 := by rw [R.x8, R.m8, ← R.st, ← R.2.2.1.1]; exact cd_mark R.l5 R.l8 R.2.2.1.2.2.2.2.2.2.1 _ _ _ _
  by_cases hc : xk_mark (X 14) z5 (X 102 0) (X 118 0) p1 p2 p3 = 0
  · have hx : xs_mark (M 53) z5 (M 113 0) (M 102 0) p1 p2 p3 = 0 := hcd.symm.trans hc
    refine g_aload_n C dL_law_715 1 rfl ?_
    refine g_aload_n C dL_law_716 0 rfl ?_
    refine g_iload C dL_law_717 5 rfl ?_
    refine g_iconst C dL_law_719 (v := 1) (by decide) ?_
    refine g_iadd C dL_law_720 ?_
    refine g_topi (y := nI (6 * c + 1)) (nI_add (6 * c) 1) ?_
    refine g_scr C hX hb hbA (j := 6 * c + 1) (by omega) (by omega) dL_law_721 ?_
    refine g_topi e1 ?_
    refine g_aload_n C dL_law_722 0 rfl ?_
    refine g_iload C dL_law_723 5 rfl ?_
    refine g_iconst C dL_law_725 (v := 2) (by decide) ?_
    refine g_iadd C dL_law_726 ?_
    refine g_topi (y := nI (6 * c + 2)) (nI_add (6 * c) 2) ?_
    refine g_scr C hX hb hbA (j := 6 * c + 2) (by omega) (by omega) dL_law_727 ?_
    refine g_topi e2 ?_
    refine g_aload_n C dL_law_728 0 rfl ?_
    refine g_iload C dL_law_729 5 rfl ?_
    refine g_iconst C dL_law_731 (v := 3) (by decide) ?_
    refine g_iadd C dL_law_732 ?_
    refine g_topi (y := nI (6 * c + 3)) (nI_add (6 * c) 3) ?_
    refine g_scr C hX hb hbA (j := 6 * c + 3) (by omega) (by omega) dL_law_733 ?_
    refine g_topi e3 ?_
    refine g_aload_n C dL_law_734 3 rfl ?_
    refine g_callH C hN (c_L_addMark _ _ _ _ _ _ _ _ _ _ _ _ _ R.x5 R.l5 hst) tw800 tw801 tw0 tw802 rfl ⟨by decide +kernel, by decide +kernel, rfl⟩ ⟨rfl, rfl⟩ (by rw [hR]; exact ⟨Nat.le_of_ble_eq_true rfl, Nat.le_of_ble_eq_true rfl⟩) (Nat.le_of_ble_eq_true rfl) dL_law_735 (by rw [hR]; exact ⟨by show k + 1 ≤ 604801; omega, by show n + 6 ≤ 7193636; omega⟩) (fun r1 X1 M1 K1 h1_ => ?_)
    obtain ⟨-, rfl, hX1, hM1, hK1⟩ := h1_.resolve_right (fun q => q.1 hc)
    subst X1 M1 K1
    refine g_istore C dL_law_738 (L' := [(6, .int (0)), (0, .ref b), (1, .ref (gad G 0)), (2, .ref (gad G 42)), (3, .ref (gad G 74)), (4, .ref (gad G 75)), (5, .int (nI (6 * c)))]) rfl (by rw [hL]; decide) ?_
    refine g_aload_n C dL_law_740 3 rfl ?_
    refine g_aload_n C dL_law_741 1 rfl ?_
    refine g_iload C dL_law_742 6 rfl ?_
    refine g_iconst C dL_law_744 (v := 1) (by decide) ?_
    refine g_iadd C dL_law_745 ?_
    refine g_topi (y := nI (6 * c + 1)) (nI_add (6 * c) 1) ?_
    refine g_scr C hX hb hbA (j := 6 * c + 1) (by omega) (by omega) dL_law_746 ?_
    refine g_topi e1 ?_
    refine g_aload_n C dL_law_747 1 rfl ?_
    refine g_iload C dL_law_748 6 rfl ?_
    refine g_iconst C dL_law_750 (v := 2) (by decide) ?_
    refine g_iadd C dL_law_751 ?_
    refine g_topi (y := nI (6 * c + 2)) (nI_add (6 * c) 2) ?_
    refine g_scr C hX hb hbA (j := 6 * c + 2) (by omega) (by omega) dL_law_752 ?_
    refine g_topi e2 ?_
    refine g_aload_n C dL_law_753 1 rfl ?_
    refine g_iload C dL_law_754 6 rfl ?_
    refine g_iconst C dL_law_756 (v := 3) (by decide) ?_
    refine g_iadd C dL_law_757 ?_
    refine g_topi (y := nI (6 * c + 3)) (nI_add (6 * c) 3) ?_
    refine g_scr C hX hb hbA (j := 6 * c + 3) (by omega) (by omega) dL_law_758 ?_
    refine g_topi e3 ?_
    refine g_callViW C dL_law_759 (c_X11_addMark _ _ _ _ _ _ _ _ _ _ _ _ _ R.m5 R.l5) tw1457 tw1458 tw1459 tw16 tw1460 (rv_X11 C) rfl ⟨by decide +kernel, by decide +kernel, rfl⟩ ⟨rfl, rfl⟩ (by rw [hR]; exact ⟨Nat.le_of_ble_eq_true rfl, Nat.le_of_ble_eq_true rfl⟩) (Nat.le_of_ble_eq_true rfl) (by rw [hR]; exact ⟨by show k + 1 + 0 ≤ 604801; omega, by show n + 6 + 0 ≤ 7193636; omega⟩) (fun r2 X1 M1 K1 h2_ => ?_)
    obtain ⟨er, hX1, hM1, hK1⟩ := h2_
    rw [if_pos hx] at er hM1
    subst X1 M1 K1
    have heq : (nI z5 + 1 : Int32) = r2 := (rfl).trans er.symm
    refine g_istore C dL_law_762 (L' := [(7, .int (r2)), (6, .int (0)), (0, .ref b), (1, .ref (gad G 0)), (2, .ref (gad G 42)), (3, .ref (gad G 74)), (4, .ref (gad G 75)), (5, .int (nI (6 * c)))]) rfl (by rw [hL]; decide) ?_
    refine g_aload_n C dL_law_764 4 rfl ?_
    refine g_callViW C dL_law_765 (c_X11_thrown _ _ _ _ _ _ _ _ _) tw1394 tw1395 tw1396 tw16 tw1397 (rv_X11 C) rfl ⟨by decide +kernel, by decide +kernel, rfl⟩ ⟨rfl, rfl⟩ (by rw [hR]; exact ⟨Nat.le_of_ble_eq_true rfl, Nat.le_of_ble_eq_true rfl⟩) (Nat.le_of_ble_eq_true rfl) (by rw [hR]; exact ⟨by show k + 1 + 0 + 0 ≤ 604801; omega, by show n + 6 + 0 + 0 ≤ 7193636; omega⟩) (fun r3 X1 M1 K1 h3 => ?_)
    obtain ⟨er3, hX1, hM1, hK1⟩ := h3
    subst X1 M1 K1
    have e3 : r3 = 0 := er3.trans (by rfl)
    refine g_iload C dL_law_768 1 rfl ?_
    refine g_icmp_eq C dL_law_770 (tgt := 775) (by decide) (fun q => ?_) (fun q => absurd e3 q)
    refine g_iload C dL_law_775 1 rfl ?_
    refine g_if_ne C dL_law_777 (tgt := 792) (by decide) (fun q => absurd q (by decide)) (fun q => ?_)
    refine g_aload_n C dL_law_780 5 rfl ?_
    refine g_iconst C dL_law_781 (v := 0) (by decide) ?_
    refine al_74 C dL_law_782 ?_
    refine g_topl (y := (nI z5 + 1 : Int32).toInt64) (kO_at _ _) ?_
    refine g_iload C dL_law_783 0 rfl ?_
    refine g_i2l C dL_law_785 ?_
    refine g_lcmpe C (by rw [heq]) dL_law_786 ?_
    refine g_if_eq C dL_law_787 (tgt := 792) (by decide) (fun q => ?_) (fun q => absurd (by decide) q)
    refine g_goto C dL_law_792 (tgt := 2415) (by decide) ?_
    exact g_sub [2, 3, 4, 5, 6, 7] rfl (kk _ _ _ _ _ _ _ _ _ _ (I.stay _ (o_mark R p1 p2 p3 (by rw [← R.x8]; exact hc)) rfl rfl rfl) ⟨by show k + 1 + 0 + 0 ≤ 100 + 2 * (c + 1) + (K.2.1 4 + K.2.1 5); omega, by show n + 6 + 0 + 0 ≤ 2000 + 520 * (c + 1) + (K.2.1 6 + K.2.1 7); omega⟩)
  · have hx : ¬ xs_mark (M 53) z5 (M 113 0) (M 102 0) p1 p2 p3 = 0 := fun q => hc (hcd.trans q)
    refine g_aload_n C dL_law_715 1 rfl ?_
    refine g_aload_n C dL_law_716 0 rfl ?_
    refine g_iload C dL_law_717 5 rfl ?_
    refine g_iconst C dL_law_719 (v := 1) (by decide) ?_
    refine g_iadd C dL_law_720 ?_
    refine g_topi (y := nI (6 * c + 1)) (nI_add (6 * c) 1) ?_
    refine g_scr C hX hb hbA (j := 6 * c + 1) (by omega) (by omega) dL_law_721 ?_
    refine g_topi e1 ?_
    refine g_aload_n C dL_law_722 0 rfl ?_
    refine g_iload C dL_law_723 5 rfl ?_
    refine g_iconst C dL_law_725 (v := 2) (by decide) ?_
    refine g_iadd C dL_law_726 ?_
    refine g_topi (y := nI (6 * c + 2)) (nI_add (6 * c) 2) ?_
    refine g_scr C hX hb hbA (j := 6 * c + 2) (by omega) (by omega) dL_law_727 ?_
    refine g_topi e2 ?_
    refine g_aload_n C dL_law_728 0 rfl ?_
    refine g_iload C dL_law_729 5 rfl ?_
    refine g_iconst C dL_law_731 (v := 3) (by decide) ?_
    refine g_iadd C dL_law_732 ?_
    refine g_topi (y := nI (6 * c + 3)) (nI_add (6 * c) 3) ?_
    refine g_scr C hX hb hbA (j := 6 * c + 3) (by omega) (by omega) dL_law_733 ?_
    refine g_topi e3 ?_
    refine g_aload_n C dL_law_734 3 rfl ?_
    refine g_callH C hN (c_L_addMark _ _ _ _ _ _ _ _ _ _ _ _ _ R.x5 R.l5 hst) tw800 tw801 tw0 tw802 rfl ⟨by decide +kernel, by decide +kernel, rfl⟩ ⟨rfl, rfl⟩ (by rw [hR]; exact ⟨Nat.le_of_ble_eq_true rfl, Nat.le_of_ble_eq_true rfl⟩) (Nat.le_of_ble_eq_true rfl) dL_law_735 (by rw [hR]; exact ⟨by show k + 1 ≤ 604801; omega, by show n + 6 ≤ 7193636; omega⟩) (fun r1 X1 M1 K1 h1_ => ?_)
    obtain ⟨-, hr1, hX1, hM1, hK1⟩ := h1_.resolve_left (fun q => hc q.1)
    subst X1 M1 K1
    refine g_istore C dL_law_738 (L' := [(6, .int (r1)), (0, .ref b), (1, .ref (gad G 0)), (2, .ref (gad G 42)), (3, .ref (gad G 74)), (4, .ref (gad G 75)), (5, .int (nI (6 * c)))]) rfl (by rw [hL]; decide) ?_
    refine g_aload_n C dL_law_740 3 rfl ?_
    refine g_aload_n C dL_law_741 1 rfl ?_
    refine g_iload C dL_law_742 6 rfl ?_
    refine g_iconst C dL_law_744 (v := 1) (by decide) ?_
    refine g_iadd C dL_law_745 ?_
    refine g_topi (y := nI (6 * c + 1)) (nI_add (6 * c) 1) ?_
    refine g_scr C hX hb hbA (j := 6 * c + 1) (by omega) (by omega) dL_law_746 ?_
    refine g_topi e1 ?_
    refine g_aload_n C dL_law_747 1 rfl ?_
    refine g_iload C dL_law_748 6 rfl ?_
    refine g_iconst C dL_law_750 (v := 2) (by decide) ?_
    refine g_iadd C dL_law_751 ?_
    refine g_topi (y := nI (6 * c + 2)) (nI_add (6 * c) 2) ?_
    refine g_scr C hX hb hbA (j := 6 * c + 2) (by omega) (by omega) dL_law_752 ?_
    refine g_topi e2 ?_
    refine g_aload_n C dL_law_753 1 rfl ?_
    refine g_iload C dL_law_754 6 rfl ?_
    refine g_iconst C dL_law_756 (v := 3) (by decide) ?_
    refine g_iadd C dL_law_757 ?_
    refine g_topi (y := nI (6 * c + 3)) (nI_add (6 * c) 3) ?_
    refine g_scr C hX hb hbA (j := 6 * c + 3) (by omega) (by omega) dL_law_758 ?_
    refine g_topi e3 ?_
    refine g_callViW C dL_law_759 (c_X11_addMark _ _ _ _ _ _ _ _ _ _ _ _ _ R.m5 R.l5) tw1457 tw1458 tw1459 tw16 tw1460 (rv_X11 C) rfl ⟨by decide +kernel, by decide +kernel, rfl⟩ ⟨rfl, rfl⟩ (by rw [hR]; exact ⟨Nat.le_of_ble_eq_true rfl, Nat.le_of_ble_eq_true rfl⟩) (Nat.le_of_ble_eq_true rfl) (by rw [hR]; exact ⟨by show k + 1 + 0 ≤ 604801; omega, by show n + 6 + 0 ≤ 7193636; omega⟩) (fun r2 X1 M1 K1 h2_ => ?_)
    obtain ⟨er, hX1, hM1, hK1⟩ := h2_
    rw [if_neg hx] at er hM1
    subst X1 M1 K1
    refine g_istore C dL_law_762 (L' := [(7, .int (r2)), (6, .int (r1)), (0, .ref b), (1, .ref (gad G 0)), (2, .ref (gad G 42)), (3, .ref (gad G 74)), (4, .ref (gad G 75)), (5, .int (nI (6 * c)))]) rfl (by rw [hL]; decide) ?_
    refine g_aload_n C dL_law_764 4 rfl ?_
    refine g_callViW C dL_law_765 (c_X11_thrown _ _ _ _ _ _ _ _ _) tw1394 tw1395 tw1396 tw16 tw1397 (rv_X11 C) rfl ⟨by decide +kernel, by decide +kernel, rfl⟩ ⟨rfl, rfl⟩ (by rw [hR]; exact ⟨Nat.le_of_ble_eq_true rfl, Nat.le_of_ble_eq_true rfl⟩) (Nat.le_of_ble_eq_true rfl) (by rw [hR]; exact ⟨by show k + 1 + 0 + 0 ≤ 604801; omega, by show n + 6 + 0 + 0 ≤ 7193636; omega⟩) (fun r3 X1 M1 K1 h3 => ?_)
    obtain ⟨er3, hX1, hM1, hK1⟩ := h3
    subst X1 M1 K1
    have e3 : r3 = xs_mark (M 53) z5 (M 113 0) (M 102 0) p1 p2 p3 := er3.trans (by rfl)
    refine g_iload C dL_law_768 1 rfl ?_
    refine g_icmp_eq C dL_law_770 (tgt := 775) (by decide) (fun q => ?_) (fun q => absurd (e3.trans (hcd.symm.trans hr1.symm)) q)
    refine g_iload C dL_law_775 1 rfl ?_
    refine g_if_ne C dL_law_777 (tgt := 792) (by decide) (fun q => ?_) (fun q => absurd q (fun u => hc (hr1.symm.trans u)))
    refine g_goto C dL_law_792 (tgt := 2415) (by decide) ?_
    exact g_sub [2, 3, 4, 5, 6, 7] rfl (kk _ _ _ _ _ _ _ _ _ _ (I.no _) ⟨by show k + 1 + 0 + 0 ≤ 100 + 2 * (c + 1) + (K.2.1 4 + K.2.1 5); omega, by show n + 6 + 0 + 0 ≤ 2000 + 520 * (c + 1) + (K.2.1 6 + K.2.1 7); omega⟩)

set_option maxHeartbeats 1000000 in
set_option maxRecDepth 100000 in
theorem lc_sense {G : MC} {b Ln c : Nat} {xs : Nat → Int32} {v z z5 z8 zs : Nat} {X M : XF} {K : KF} {k n : Nat} (E : LawG G b Ln xs) (hcL : 6 * c + 6 ≤ Ln) (I : Inv c v z z5 z8 zs X M K) (hm : rmO c K k n) (kk : LwS G b c) : GH G (WX G X M K) [(0, .ref b), (1, .ref (gad G 0)), (2, .ref (gad G 42)), (3, .ref (gad G 74)), (4, .ref (gad G 75)), (5, .int (nI (6 * c)))] k n 795 [] := by
  obtain ⟨C, hst, hN, hX, hb, hbA, hLn, hR, hL⟩ := E
  have R := I.rel
  have hc5 : c < 512 := by omega
  have hnum := I.num (by omega)
  have hlen := I.len (by omega)
  obtain ⟨hm1, hm2⟩ := hm
  have hk2 := I.k2
  have hzk := I.zk
  have hsN := I.sN
  obtain ⟨p1, e1⟩ : ∃ p, xs (6 * c + 1) = p := ⟨_, rfl⟩
  obtain ⟨p2, e2⟩ : ∃ p, xs (6 * c + 2) = p := ⟨_, rfl⟩
  have hcd : xk_sense p1 p2 = xs_sense p1 p2 := by exact cd_sense _ _
  by_cases hc : xk_sense p1 p2 = 0
  · have hx : xs_sense p1 p2 = 0 := hcd.symm.trans hc
    refine g_aload_n C dL_law_795 1 rfl ?_
    refine g_aload_n C dL_law_796 0 rfl ?_
    refine g_iload C dL_law_797 5 rfl ?_
    refine g_iconst C dL_law_799 (v := 1) (by decide) ?_
    refine g_iadd C dL_law_800 ?_
    refine g_topi (y := nI (6 * c + 1)) (nI_add (6 * c) 1) ?_
    refine g_scr C hX hb hbA (j := 6 * c + 1) (by omega) (by omega) dL_law_801 ?_
    refine g_topi e1 ?_
    refine g_aload_n C dL_law_802 0 rfl ?_
    refine g_iload C dL_law_803 5 rfl ?_
    refine g_iconst C dL_law_805 (v := 2) (by decide) ?_
    refine g_iadd C dL_law_806 ?_
    refine g_topi (y := nI (6 * c + 2)) (nI_add (6 * c) 2) ?_
    refine g_scr C hX hb hbA (j := 6 * c + 2) (by omega) (by omega) dL_law_807 ?_
    refine g_topi e2 ?_
    refine g_aload_n C dL_law_808 3 rfl ?_
    refine g_callH C hN (c_L_sense _ _ _ _ _ _ _ _ _ _ _ hst) tw837 tw838 tw0 tw839 rfl ⟨by decide +kernel, by decide +kernel, rfl⟩ ⟨rfl, rfl⟩ (by rw [hR]; exact ⟨Nat.le_of_ble_eq_true rfl, Nat.le_of_ble_eq_true rfl⟩) (Nat.le_of_ble_eq_true rfl) dL_law_809 (by rw [hR]; exact ⟨by show k + 1 ≤ 604801; omega, by show n + 6 ≤ 7193636; omega⟩) (fun r1 X1 M1 K1 h1_ => ?_)
    obtain ⟨-, rfl, hX1, hM1, hK1⟩ := h1_.resolve_right (fun q => q.1 hc)
    subst X1 M1 K1
    refine g_istore C dL_law_812 (L' := [(6, .int (0)), (0, .ref b), (1, .ref (gad G 0)), (2, .ref (gad G 42)), (3, .ref (gad G 74)), (4, .ref (gad G 75)), (5, .int (nI (6 * c)))]) rfl (by rw [hL]; decide) ?_
    refine g_aload_n C dL_law_814 3 rfl ?_
    refine g_aload_n C dL_law_815 1 rfl ?_
    refine g_iload C dL_law_816 6 rfl ?_
    refine g_iconst C dL_law_818 (v := 1) (by decide) ?_
    refine g_iadd C dL_law_819 ?_
    refine g_topi (y := nI (6 * c + 1)) (nI_add (6 * c) 1) ?_
    refine g_scr C hX hb hbA (j := 6 * c + 1) (by omega) (by omega) dL_law_820 ?_
    refine g_topi e1 ?_
    refine g_aload_n C dL_law_821 1 rfl ?_
    refine g_iload C dL_law_822 6 rfl ?_
    refine g_iconst C dL_law_824 (v := 2) (by decide) ?_
    refine g_iadd C dL_law_825 ?_
    refine g_topi (y := nI (6 * c + 2)) (nI_add (6 * c) 2) ?_
    refine g_scr C hX hb hbA (j := 6 * c + 2) (by omega) (by omega) dL_law_826 ?_
    refine g_topi e2 ?_
    refine g_callViW C dL_law_827 (c_X11_sense _ _ _ _ _ _ _ _ _ _ _ R.n57) tw1465 tw1466 tw1467 tw16 tw1468 (rv_X11 C) rfl ⟨by decide +kernel, by decide +kernel, rfl⟩ ⟨rfl, rfl⟩ (by rw [hR]; exact ⟨Nat.le_of_ble_eq_true rfl, Nat.le_of_ble_eq_true rfl⟩) (Nat.le_of_ble_eq_true rfl) (by rw [hR]; exact ⟨by show k + 1 + 0 ≤ 604801; omega, by show n + 6 + 0 ≤ 7193636; omega⟩) (fun r2 X1 M1 K1 h2_ => ?_)
    obtain ⟨er, hX1, hM1, hK1⟩ := h2_
    rw [if_pos hx] at er hM1
    subst X1 M1 K1
    have heq : (sn_tell (X 19) (upd (X 18) p1.toNatClampNeg p2) (p1.toNatClampNeg / 3) : Int32) = r2 := ((o_sense R p1 p2 hc).1).trans er.symm
    refine g_istore C dL_law_830 (L' := [(7, .int (r2)), (6, .int (0)), (0, .ref b), (1, .ref (gad G 0)), (2, .ref (gad G 42)), (3, .ref (gad G 74)), (4, .ref (gad G 75)), (5, .int (nI (6 * c)))]) rfl (by rw [hL]; decide) ?_
    refine g_aload_n C dL_law_832 4 rfl ?_
    refine g_callViW C dL_law_833 (c_X11_thrown _ _ _ _ _ _ _ _ _) tw1394 tw1395 tw1396 tw16 tw1397 (rv_X11 C) rfl ⟨by decide +kernel, by decide +kernel, rfl⟩ ⟨rfl, rfl⟩ (by rw [hR]; exact ⟨Nat.le_of_ble_eq_true rfl, Nat.le_of_ble_eq_true rfl⟩) (Nat.le_of_ble_eq_true rfl) (by rw [hR]; exact ⟨by show k + 1 + 0 + 0 ≤ 604801; omega, by show n + 6 + 0 + 0 ≤ 7193636; omega⟩) (fun r3 X1 M1 K1 h3 => ?_)
    obtain ⟨er3, hX1, hM1, hK1⟩ := h3
    subst X1 M1 K1
    have e3 : r3 = 0 := er3.trans (by rfl)
    refine g_iload C dL_law_836 1 rfl ?_
    refine g_icmp_eq C dL_law_838 (tgt := 843) (by decide) (fun q => ?_) (fun q => absurd e3 q)
    refine g_iload C dL_law_843 1 rfl ?_
    refine g_if_ne C dL_law_845 (tgt := 860) (by decide) (fun q => absurd q (by decide)) (fun q => ?_)
    refine g_aload_n C dL_law_848 5 rfl ?_
    refine g_iconst C dL_law_849 (v := 0) (by decide) ?_
    refine al_74 C dL_law_850 ?_
    refine g_topl (y := (sn_tell (X 19) (upd (X 18) p1.toNatClampNeg p2) (p1.toNatClampNeg / 3) : Int32).toInt64) (kO_at _ _) ?_
    refine g_iload C dL_law_851 0 rfl ?_
    refine g_i2l C dL_law_853 ?_
    refine g_lcmpe C (by rw [heq]) dL_law_854 ?_
    refine g_if_eq C dL_law_855 (tgt := 860) (by decide) (fun q => ?_) (fun q => absurd (by decide) q)
    refine g_goto C dL_law_860 (tgt := 2415) (by decide) ?_
    exact g_sub [2, 3, 4, 5, 6, 7] rfl (kk _ _ _ _ _ _ _ _ _ _ (I.stay _ (o_sense R p1 p2 hc).2 rfl rfl rfl) ⟨by show k + 1 + 0 + 0 ≤ 100 + 2 * (c + 1) + (K.2.1 4 + K.2.1 5); omega, by show n + 6 + 0 + 0 ≤ 2000 + 520 * (c + 1) + (K.2.1 6 + K.2.1 7); omega⟩)
  · have hx : ¬ xs_sense p1 p2 = 0 := fun q => hc (hcd.trans q)
    refine g_aload_n C dL_law_795 1 rfl ?_
    refine g_aload_n C dL_law_796 0 rfl ?_
    refine g_iload C dL_law_797 5 rfl ?_
    refine g_iconst C dL_law_799 (v := 1) (by decide) ?_
    refine g_iadd C dL_law_800 ?_
    refine g_topi (y := nI (6 * c + 1)) (nI_add (6 * c) 1) ?_
    refine g_scr C hX hb hbA (j := 6 * c + 1) (by omega) (by omega) dL_law_801 ?_
    refine g_topi e1 ?_
    refine g_aload_n C dL_law_802 0 rfl ?_
    refine g_iload C dL_law_803 5 rfl ?_
    refine g_iconst C dL_law_805 (v := 2) (by decide) ?_
    refine g_iadd C dL_law_806 ?_
    refine g_topi (y := nI (6 * c + 2)) (nI_add (6 * c) 2) ?_
    refine g_scr C hX hb hbA (j := 6 * c + 2) (by omega) (by omega) dL_law_807 ?_
    refine g_topi e2 ?_
    refine g_aload_n C dL_law_808 3 rfl ?_
    refine g_callH C hN (c_L_sense _ _ _ _ _ _ _ _ _ _ _ hst) tw837 tw838 tw0 tw839 rfl ⟨by decide +kernel, by decide +kernel, rfl⟩ ⟨rfl, rfl⟩ (by rw [hR]; exact ⟨Nat.le_of_ble_eq_true rfl, Nat.le_of_ble_eq_true rfl⟩) (Nat.le_of_ble_eq_true rfl) dL_law_809 (by rw [hR]; exact ⟨by show k + 1 ≤ 604801; omega, by show n + 6 ≤ 7193636; omega⟩) (fun r1 X1 M1 K1 h1_ => ?_)
    obtain ⟨-, hr1, hX1, hM1, hK1⟩ := h1_.resolve_left (fun q => hc q.1)
    subst X1 M1 K1
    refine g_istore C dL_law_812 (L' := [(6, .int (r1)), (0, .ref b), (1, .ref (gad G 0)), (2, .ref (gad G 42)), (3, .ref (gad G 74)), (4, .ref (gad G 75)), (5, .int (nI (6 * c)))]) rfl (by rw [hL]; decide) ?_
    refine g_aload_n C dL_law_814 3 rfl ?_
    refine g_aload_n C dL_law_815 1 rfl ?_
    refine g_iload C dL_law_816 6 rfl ?_
    refine g_iconst C dL_law_818 (v := 1) (by decide) ?_
    refine g_iadd C dL_law_819 ?_
    refine g_topi (y := nI (6 * c + 1)) (nI_add (6 * c) 1) ?_
    refine g_scr C hX hb hbA (j := 6 * c + 1) (by omega) (by omega) dL_law_820 ?_
    refine g_topi e1 ?_
    refine g_aload_n C dL_law_821 1 rfl ?_
    refine g_iload C dL_law_822 6 rfl ?_
    refine g_iconst C dL_law_824 (v := 2) (by decide) ?_
    refine g_iadd C dL_law_825 ?_
    refine g_topi (y := nI (6 * c + 2)) (nI_add (6 * c) 2) ?_
    refine g_scr C hX hb hbA (j := 6 * c + 2) (by omega) (by omega) dL_law_826 ?_
    refine g_topi e2 ?_
    refine g_callViW C dL_law_827 (c_X11_sense _ _ _ _ _ _ _ _ _ _ _ R.n57) tw1465 tw1466 tw1467 tw16 tw1468 (rv_X11 C) rfl ⟨by decide +kernel, by decide +kernel, rfl⟩ ⟨rfl, rfl⟩ (by rw [hR]; exact ⟨Nat.le_of_ble_eq_true rfl, Nat.le_of_ble_eq_true rfl⟩) (Nat.le_of_ble_eq_true rfl) (by rw [hR]; exact ⟨by show k + 1 + 0 ≤ 604801; omega, by show n + 6 + 0 ≤ 7193636; omega⟩) (fun r2 X1 M1 K1 h2_ => ?_)
    obtain ⟨er, hX1, hM1, hK1⟩ := h2_
    rw [if_neg hx] at er hM1
    subst X1 M1 K1
    refine g_istore C dL_law_830 (L' := [(7, .int (r2)), (6, .int (r1)), (0, .ref b), (1, .ref (gad G 0)), (2, .ref (gad G 42)), (3, .ref (gad G 74)), (4, .ref (gad G 75)), (5, .int (nI (6 * c)))]) rfl (by rw [hL]; decide) ?_
    refine g_aload_n C dL_law_832 4 rfl ?_
    refine g_callViW C dL_law_833 (c_X11_thrown _ _ _ _ _ _ _ _ _) tw1394 tw1395 tw1396 tw16 tw1397 (rv_X11 C) rfl ⟨by decide +kernel, by decide +kernel, rfl⟩ ⟨rfl, rfl⟩ (by rw [hR]; exact ⟨Nat.le_of_ble_eq_true rfl, Nat.le_of_ble_eq_true rfl⟩) (Nat.le_of_ble_eq_true rfl) (by rw [hR]; exact ⟨by show k + 1 + 0 + 0 ≤ 604801; omega, by show n + 6 + 0 + 0 ≤ 7193636; omega⟩) (fun r3 X1 M1 K1 h3 => ?_)
    obtain ⟨er3, hX1, hM1, hK1⟩ := h3
    subst X1 M1 K1
    have e3 : r3 = xs_sense p1 p2 := er3.trans (by rfl)
    refine g_iload C dL_law_836 1 rfl ?_
    refine g_icmp_eq C dL_law_838 (tgt := 843) (by decide) (fun q => ?_) (fun q => absurd (e3.trans (hcd.symm.trans hr1.symm)) q)
    refine g_iload C dL_law_843 1 rfl ?_
    refine g_if_ne C dL_law_845 (tgt := 860) (by decide) (fun q => ?_) (fun q => absurd q (fun u => hc (hr1.symm.trans u)))
    refine g_goto C dL_law_860 (tgt := 2415) (by decide) ?_
    exact g_sub [2, 3, 4, 5, 6, 7] rfl (kk _ _ _ _ _ _ _ _ _ _ (I.no _) ⟨by show k + 1 + 0 + 0 ≤ 100 + 2 * (c + 1) + (K.2.1 4 + K.2.1 5); omega, by show n + 6 + 0 + 0 ≤ 2000 + 520 * (c + 1) + (K.2.1 6 + K.2.1 7); omega⟩)

set_option maxHeartbeats 1000000 in
set_option maxRecDepth 100000 in
theorem lc_inhibit {G : MC} {b Ln c : Nat} {xs : Nat → Int32} {v z z5 z8 zs : Nat} {X M : XF} {K : KF} {k n : Nat} (E : LawG G b Ln xs) (hcL : 6 * c + 6 ≤ Ln) (I : Inv c v z z5 z8 zs X M K) (hm : rmO c K k n) (kk : LwS G b c) : GH G (WX G X M K) [(0, .ref b), (1, .ref (gad G 0)), (2, .ref (gad G 42)), (3, .ref (gad G 74)), (4, .ref (gad G 75)), (5, .int (nI (6 * c)))] k n 863 [] := by
  obtain ⟨C, hst, hN, hX, hb, hbA, hLn, hR, hL⟩ := E
  have R := I.rel
  have hc5 : c < 512 := by omega
  have hnum := I.num (by omega)
  have hlen := I.len (by omega)
  obtain ⟨hm1, hm2⟩ := hm
  have hk2 := I.k2
  have hzk := I.zk
  have hsN := I.sN
  obtain ⟨p1, e1⟩ : ∃ p, xs (6 * c + 1) = p := ⟨_, rfl⟩
  obtain ⟨p2, e2⟩ : ∃ p, bz (xs (6 * c + 2)) = p := ⟨_, rfl⟩
  have h2 : isBo p2 := by rw [← e2]; exact bz_bo _
  have hcd : xk_inh (X 19) p1 p2 = xs_inh (M 57) p1 p2 := by rw [← R.e19]; exact cd_inh _ _ _
  by_cases hc : xk_inh (X 19) p1 p2 = 0
  · have hx : xs_inh (M 57) p1 p2 = 0 := hcd.symm.trans hc
    refine g_aload_n C dL_law_863 1 rfl ?_
    refine g_aload_n C dL_law_864 0 rfl ?_
    refine g_iload C dL_law_865 5 rfl ?_
    refine g_iconst C dL_law_867 (v := 1) (by decide) ?_
    refine g_iadd C dL_law_868 ?_
    refine g_topi (y := nI (6 * c + 1)) (nI_add (6 * c) 1) ?_
    refine g_scr C hX hb hbA (j := 6 * c + 1) (by omega) (by omega) dL_law_869 ?_
    refine g_topi e1 ?_
    refine g_aload_n C dL_law_870 0 rfl ?_
    refine g_iload C dL_law_871 5 rfl ?_
    refine g_iconst C dL_law_873 (v := 2) (by decide) ?_
    refine g_iadd C dL_law_874 ?_
    refine g_topi (y := nI (6 * c + 2)) (nI_add (6 * c) 2) ?_
    refine g_scr C hX hb hbA (j := 6 * c + 2) (by omega) (by omega) dL_law_875 ?_
    have jn1 : GH G (WX G X M K) [(0, .ref b), (1, .ref (gad G 0)), (2, .ref (gad G 42)), (3, .ref (gad G 74)), (4, .ref (gad G 75)), (5, .int (nI (6 * c)))] k n 884 [.int (p2), .int (p1), .ref (gad G 0)] := by
      refine g_aload_n C dL_law_884 3 rfl ?_
      refine g_callH C hN (c_L_inhibit _ _ _ _ _ _ _ _ _ _ _ h2 hst) tw854 tw855 tw0 tw856 rfl ⟨by decide +kernel, by decide +kernel, rfl⟩ ⟨rfl, rfl⟩ (by rw [hR]; exact ⟨Nat.le_of_ble_eq_true rfl, Nat.le_of_ble_eq_true rfl⟩) (Nat.le_of_ble_eq_true rfl) dL_law_885 (by rw [hR]; exact ⟨by show k + 1 ≤ 604801; omega, by show n + 6 ≤ 7193636; omega⟩) (fun r1 X1 M1 K1 h1_ => ?_)
      obtain ⟨-, rfl, hX1, hM1, hK1⟩ := h1_.resolve_right (fun q => q.1 hc)
      subst X1 M1 K1
      refine g_istore C dL_law_888 (L' := [(6, .int (0)), (0, .ref b), (1, .ref (gad G 0)), (2, .ref (gad G 42)), (3, .ref (gad G 74)), (4, .ref (gad G 75)), (5, .int (nI (6 * c)))]) rfl (by rw [hL]; decide) ?_
      refine g_aload_n C dL_law_890 3 rfl ?_
      refine g_aload_n C dL_law_891 1 rfl ?_
      refine g_iload C dL_law_892 6 rfl ?_
      refine g_iconst C dL_law_894 (v := 1) (by decide) ?_
      refine g_iadd C dL_law_895 ?_
      refine g_topi (y := nI (6 * c + 1)) (nI_add (6 * c) 1) ?_
      refine g_scr C hX hb hbA (j := 6 * c + 1) (by omega) (by omega) dL_law_896 ?_
      refine g_topi e1 ?_
      refine g_aload_n C dL_law_897 1 rfl ?_
      refine g_iload C dL_law_898 6 rfl ?_
      refine g_iconst C dL_law_900 (v := 2) (by decide) ?_
      refine g_iadd C dL_law_901 ?_
      refine g_topi (y := nI (6 * c + 2)) (nI_add (6 * c) 2) ?_
      refine g_scr C hX hb hbA (j := 6 * c + 2) (by omega) (by omega) dL_law_902 ?_
      have jn2 : GH G (WX G (sa X 19 (upd (X 19) p1.toNatClampNeg p2)) M (kO K (sn_cnt (upd (X 19) p1.toNatClampNeg p2) (p1.toNatClampNeg / 3) 3 : Int32).toInt64)) [(6, .int (0)), (0, .ref b), (1, .ref (gad G 0)), (2, .ref (gad G 42)), (3, .ref (gad G 74)), (4, .ref (gad G 75)), (5, .int (nI (6 * c)))] (k + 1) (n + 6) 911 [.int (p2), .int (p1), .ref (gad G 42)] := by
        refine g_callViW C dL_law_911 (c_X11_inhibit _ _ _ _ _ _ _ _ _ _ _ h2) tw1481 tw1482 tw1483 tw16 tw1484 (rv_X11 C) rfl ⟨by decide +kernel, by decide +kernel, rfl⟩ ⟨rfl, rfl⟩ (by rw [hR]; exact ⟨Nat.le_of_ble_eq_true rfl, Nat.le_of_ble_eq_true rfl⟩) (Nat.le_of_ble_eq_true rfl) (by rw [hR]; exact ⟨by show k + 1 + 0 ≤ 604801; omega, by show n + 6 + 0 ≤ 7193636; omega⟩) (fun r2 X1 M1 K1 h2_ => ?_)
        obtain ⟨er, hX1, hM1, hK1⟩ := h2_
        rw [if_pos hx] at er hM1
        subst X1 M1 K1
        have heq : (sn_cnt (upd (X 19) p1.toNatClampNeg p2) (p1.toNatClampNeg / 3) 3 : Int32) = r2 := ((o_inh R p1 p2 h2 hc).1).trans er.symm
        refine g_istore C dL_law_914 (L' := [(7, .int (r2)), (6, .int (0)), (0, .ref b), (1, .ref (gad G 0)), (2, .ref (gad G 42)), (3, .ref (gad G 74)), (4, .ref (gad G 75)), (5, .int (nI (6 * c)))]) rfl (by rw [hL]; decide) ?_
        refine g_aload_n C dL_law_916 4 rfl ?_
        refine g_callViW C dL_law_917 (c_X11_thrown _ _ _ _ _ _ _ _ _) tw1394 tw1395 tw1396 tw16 tw1397 (rv_X11 C) rfl ⟨by decide +kernel, by decide +kernel, rfl⟩ ⟨rfl, rfl⟩ (by rw [hR]; exact ⟨Nat.le_of_ble_eq_true rfl, Nat.le_of_ble_eq_true rfl⟩) (Nat.le_of_ble_eq_true rfl) (by rw [hR]; exact ⟨by show k + 1 + 0 + 0 ≤ 604801; omega, by show n + 6 + 0 + 0 ≤ 7193636; omega⟩) (fun r3 X1 M1 K1 h3 => ?_)
        obtain ⟨er3, hX1, hM1, hK1⟩ := h3
        subst X1 M1 K1
        have e3 : r3 = 0 := er3.trans (by rfl)
        refine g_iload C dL_law_920 1 rfl ?_
        refine g_icmp_eq C dL_law_922 (tgt := 927) (by decide) (fun q => ?_) (fun q => absurd e3 q)
        refine g_iload C dL_law_927 1 rfl ?_
        refine g_if_ne C dL_law_929 (tgt := 944) (by decide) (fun q => absurd q (by decide)) (fun q => ?_)
        refine g_aload_n C dL_law_932 5 rfl ?_
        refine g_iconst C dL_law_933 (v := 0) (by decide) ?_
        refine al_74 C dL_law_934 ?_
        refine g_topl (y := (sn_cnt (upd (X 19) p1.toNatClampNeg p2) (p1.toNatClampNeg / 3) 3 : Int32).toInt64) (kO_at _ _) ?_
        refine g_iload C dL_law_935 0 rfl ?_
        refine g_i2l C dL_law_937 ?_
        refine g_lcmpe C (by rw [heq]) dL_law_938 ?_
        refine g_if_eq C dL_law_939 (tgt := 944) (by decide) (fun q => ?_) (fun q => absurd (by decide) q)
        refine g_goto C dL_law_944 (tgt := 2415) (by decide) ?_
        exact g_sub [2, 3, 4, 5, 6, 7] rfl (kk _ _ _ _ _ _ _ _ _ _ (I.stay _ (o_inh R p1 p2 h2 hc).2 rfl rfl rfl) ⟨by show k + 1 + 0 + 0 ≤ 100 + 2 * (c + 1) + (K.2.1 4 + K.2.1 5); omega, by show n + 6 + 0 + 0 ≤ 2000 + 520 * (c + 1) + (K.2.1 6 + K.2.1 7); omega⟩)
      refine g_if_eq C dL_law_903 (tgt := 910) (by decide) (fun q => ?_) (fun q => ?_)
      · refine g_iconst C dL_law_910 (v := 0) (by decide) ?_
        exact g_topi (show (0 : Int32) = p2 by rw [← e2]; exact (if_pos q).symm) jn2
      · refine g_iconst C dL_law_906 (v := 1) (by decide) ?_
        refine g_goto C dL_law_907 (tgt := 911) (by decide) ?_
        exact g_topi (show (1 : Int32) = p2 by rw [← e2]; exact (if_neg q).symm) jn2
    refine g_if_eq C dL_law_876 (tgt := 883) (by decide) (fun q => ?_) (fun q => ?_)
    · refine g_iconst C dL_law_883 (v := 0) (by decide) ?_
      exact g_topi (show (0 : Int32) = p2 by rw [← e2]; exact (if_pos q).symm) jn1
    · refine g_iconst C dL_law_879 (v := 1) (by decide) ?_
      refine g_goto C dL_law_880 (tgt := 884) (by decide) ?_
      exact g_topi (show (1 : Int32) = p2 by rw [← e2]; exact (if_neg q).symm) jn1
  · have hx : ¬ xs_inh (M 57) p1 p2 = 0 := fun q => hc (hcd.trans q)
    refine g_aload_n C dL_law_863 1 rfl ?_
    refine g_aload_n C dL_law_864 0 rfl ?_
    refine g_iload C dL_law_865 5 rfl ?_
    refine g_iconst C dL_law_867 (v := 1) (by decide) ?_
    refine g_iadd C dL_law_868 ?_
    refine g_topi (y := nI (6 * c + 1)) (nI_add (6 * c) 1) ?_
    refine g_scr C hX hb hbA (j := 6 * c + 1) (by omega) (by omega) dL_law_869 ?_
    refine g_topi e1 ?_
    refine g_aload_n C dL_law_870 0 rfl ?_
    refine g_iload C dL_law_871 5 rfl ?_
    refine g_iconst C dL_law_873 (v := 2) (by decide) ?_
    refine g_iadd C dL_law_874 ?_
    refine g_topi (y := nI (6 * c + 2)) (nI_add (6 * c) 2) ?_
    refine g_scr C hX hb hbA (j := 6 * c + 2) (by omega) (by omega) dL_law_875 ?_
    have jn3 : GH G (WX G X M K) [(0, .ref b), (1, .ref (gad G 0)), (2, .ref (gad G 42)), (3, .ref (gad G 74)), (4, .ref (gad G 75)), (5, .int (nI (6 * c)))] k n 884 [.int (p2), .int (p1), .ref (gad G 0)] := by
      refine g_aload_n C dL_law_884 3 rfl ?_
      refine g_callH C hN (c_L_inhibit _ _ _ _ _ _ _ _ _ _ _ h2 hst) tw854 tw855 tw0 tw856 rfl ⟨by decide +kernel, by decide +kernel, rfl⟩ ⟨rfl, rfl⟩ (by rw [hR]; exact ⟨Nat.le_of_ble_eq_true rfl, Nat.le_of_ble_eq_true rfl⟩) (Nat.le_of_ble_eq_true rfl) dL_law_885 (by rw [hR]; exact ⟨by show k + 1 ≤ 604801; omega, by show n + 6 ≤ 7193636; omega⟩) (fun r1 X1 M1 K1 h1_ => ?_)
      obtain ⟨-, hr1, hX1, hM1, hK1⟩ := h1_.resolve_left (fun q => hc q.1)
      subst X1 M1 K1
      refine g_istore C dL_law_888 (L' := [(6, .int (r1)), (0, .ref b), (1, .ref (gad G 0)), (2, .ref (gad G 42)), (3, .ref (gad G 74)), (4, .ref (gad G 75)), (5, .int (nI (6 * c)))]) rfl (by rw [hL]; decide) ?_
      refine g_aload_n C dL_law_890 3 rfl ?_
      refine g_aload_n C dL_law_891 1 rfl ?_
      refine g_iload C dL_law_892 6 rfl ?_
      refine g_iconst C dL_law_894 (v := 1) (by decide) ?_
      refine g_iadd C dL_law_895 ?_
      refine g_topi (y := nI (6 * c + 1)) (nI_add (6 * c) 1) ?_
      refine g_scr C hX hb hbA (j := 6 * c + 1) (by omega) (by omega) dL_law_896 ?_
      refine g_topi e1 ?_
      refine g_aload_n C dL_law_897 1 rfl ?_
      refine g_iload C dL_law_898 6 rfl ?_
      refine g_iconst C dL_law_900 (v := 2) (by decide) ?_
      refine g_iadd C dL_law_901 ?_
      refine g_topi (y := nI (6 * c + 2)) (nI_add (6 * c) 2) ?_
      refine g_scr C hX hb hbA (j := 6 * c + 2) (by omega) (by omega) dL_law_902 ?_
      have jn4 : GH G (WX G X M K) [(6, .int (r1)), (0, .ref b), (1, .ref (gad G 0)), (2, .ref (gad G 42)), (3, .ref (gad G 74)), (4, .ref (gad G 75)), (5, .int (nI (6 * c)))] (k + 1) (n + 6) 911 [.int (p2), .int (p1), .ref (gad G 42)] := by
        refine g_callViW C dL_law_911 (c_X11_inhibit _ _ _ _ _ _ _ _ _ _ _ h2) tw1481 tw1482 tw1483 tw16 tw1484 (rv_X11 C) rfl ⟨by decide +kernel, by decide +kernel, rfl⟩ ⟨rfl, rfl⟩ (by rw [hR]; exact ⟨Nat.le_of_ble_eq_true rfl, Nat.le_of_ble_eq_true rfl⟩) (Nat.le_of_ble_eq_true rfl) (by rw [hR]; exact ⟨by show k + 1 + 0 ≤ 604801; omega, by show n + 6 + 0 ≤ 7193636; omega⟩) (fun r2 X1 M1 K1 h2_ => ?_)
        obtain ⟨er, hX1, hM1, hK1⟩ := h2_
        rw [if_neg hx] at er hM1
        subst X1 M1 K1
        refine g_istore C dL_law_914 (L' := [(7, .int (r2)), (6, .int (r1)), (0, .ref b), (1, .ref (gad G 0)), (2, .ref (gad G 42)), (3, .ref (gad G 74)), (4, .ref (gad G 75)), (5, .int (nI (6 * c)))]) rfl (by rw [hL]; decide) ?_
        refine g_aload_n C dL_law_916 4 rfl ?_
        refine g_callViW C dL_law_917 (c_X11_thrown _ _ _ _ _ _ _ _ _) tw1394 tw1395 tw1396 tw16 tw1397 (rv_X11 C) rfl ⟨by decide +kernel, by decide +kernel, rfl⟩ ⟨rfl, rfl⟩ (by rw [hR]; exact ⟨Nat.le_of_ble_eq_true rfl, Nat.le_of_ble_eq_true rfl⟩) (Nat.le_of_ble_eq_true rfl) (by rw [hR]; exact ⟨by show k + 1 + 0 + 0 ≤ 604801; omega, by show n + 6 + 0 + 0 ≤ 7193636; omega⟩) (fun r3 X1 M1 K1 h3 => ?_)
        obtain ⟨er3, hX1, hM1, hK1⟩ := h3
        subst X1 M1 K1
        have e3 : r3 = xs_inh (M 57) p1 p2 := er3.trans (by rfl)
        refine g_iload C dL_law_920 1 rfl ?_
        refine g_icmp_eq C dL_law_922 (tgt := 927) (by decide) (fun q => ?_) (fun q => absurd (e3.trans (hcd.symm.trans hr1.symm)) q)
        refine g_iload C dL_law_927 1 rfl ?_
        refine g_if_ne C dL_law_929 (tgt := 944) (by decide) (fun q => ?_) (fun q => absurd q (fun u => hc (hr1.symm.trans u)))
        refine g_goto C dL_law_944 (tgt := 2415) (by decide) ?_
        exact g_sub [2, 3, 4, 5, 6, 7] rfl (kk _ _ _ _ _ _ _ _ _ _ (I.no _) ⟨by show k + 1 + 0 + 0 ≤ 100 + 2 * (c + 1) + (K.2.1 4 + K.2.1 5); omega, by show n + 6 + 0 + 0 ≤ 2000 + 520 * (c + 1) + (K.2.1 6 + K.2.1 7); omega⟩)
      refine g_if_eq C dL_law_903 (tgt := 910) (by decide) (fun q => ?_) (fun q => ?_)
      · refine g_iconst C dL_law_910 (v := 0) (by decide) ?_
        exact g_topi (show (0 : Int32) = p2 by rw [← e2]; exact (if_pos q).symm) jn4
      · refine g_iconst C dL_law_906 (v := 1) (by decide) ?_
        refine g_goto C dL_law_907 (tgt := 911) (by decide) ?_
        exact g_topi (show (1 : Int32) = p2 by rw [← e2]; exact (if_neg q).symm) jn4
    refine g_if_eq C dL_law_876 (tgt := 883) (by decide) (fun q => ?_) (fun q => ?_)
    · refine g_iconst C dL_law_883 (v := 0) (by decide) ?_
      exact g_topi (show (0 : Int32) = p2 by rw [← e2]; exact (if_pos q).symm) jn3
    · refine g_iconst C dL_law_879 (v := 1) (by decide) ?_
      refine g_goto C dL_law_880 (tgt := 884) (by decide) ?_
      exact g_topi (show (1 : Int32) = p2 by rw [← e2]; exact (if_neg q).symm) jn3

set_option maxHeartbeats 1000000 in
set_option maxRecDepth 100000 in
theorem lc_setWind {G : MC} {b Ln c : Nat} {xs : Nat → Int32} {v z z5 z8 zs : Nat} {X M : XF} {K : KF} {k n : Nat} (E : LawG G b Ln xs) (hcL : 6 * c + 6 ≤ Ln) (I : Inv c v z z5 z8 zs X M K) (hm : rmO c K k n) (kk : LwS G b c) : GH G (WX G X M K) [(0, .ref b), (1, .ref (gad G 0)), (2, .ref (gad G 42)), (3, .ref (gad G 74)), (4, .ref (gad G 75)), (5, .int (nI (6 * c)))] k n 947 [] := by
  obtain ⟨C, hst, hN, hX, hb, hbA, hLn, hR, hL⟩ := E
  have R := I.rel
  have hc5 : c < 512 := by omega
  have hnum := I.num (by omega)
  have hlen := I.len (by omega)
  obtain ⟨hm1, hm2⟩ := hm
  have hk2 := I.k2
  have hzk := I.zk
  have hsN := I.sN
  obtain ⟨p1, e1⟩ : ∃ p, xs (6 * c + 1) = p := ⟨_, rfl⟩
  have hcd : xk_w 0 200 p1 = xs_wind p1 := by exact cd_wind _
  by_cases hc : xk_w 0 200 p1 = 0
  · have hx : xs_wind p1 = 0 := hcd.symm.trans hc
    refine g_aload_n C dL_law_947 1 rfl ?_
    refine g_aload_n C dL_law_948 0 rfl ?_
    refine g_iload C dL_law_949 5 rfl ?_
    refine g_iconst C dL_law_951 (v := 1) (by decide) ?_
    refine g_iadd C dL_law_952 ?_
    refine g_topi (y := nI (6 * c + 1)) (nI_add (6 * c) 1) ?_
    refine g_scr C hX hb hbA (j := 6 * c + 1) (by omega) (by omega) dL_law_953 ?_
    refine g_topi e1 ?_
    refine g_aload_n C dL_law_954 3 rfl ?_
    refine g_callH C hN (c_L_setWind _ _ _ _ _ _ _ _ _ _ hst) tw868 tw869 tw0 tw870 rfl ⟨by decide +kernel, by decide +kernel, rfl⟩ ⟨rfl, rfl⟩ (by rw [hR]; exact ⟨Nat.le_of_ble_eq_true rfl, Nat.le_of_ble_eq_true rfl⟩) (Nat.le_of_ble_eq_true rfl) dL_law_955 (by rw [hR]; exact ⟨by show k + 1 ≤ 604801; omega, by show n + 6 ≤ 7193636; omega⟩) (fun r1 X1 M1 K1 h1_ => ?_)
    obtain ⟨-, rfl, hX1, hM1, hK1⟩ := h1_.resolve_right (fun q => q.1 hc)
    subst X1 M1 K1
    refine g_istore C dL_law_958 (L' := [(6, .int (0)), (0, .ref b), (1, .ref (gad G 0)), (2, .ref (gad G 42)), (3, .ref (gad G 74)), (4, .ref (gad G 75)), (5, .int (nI (6 * c)))]) rfl (by rw [hL]; decide) ?_
    refine g_aload_n C dL_law_960 3 rfl ?_
    refine g_aload_n C dL_law_961 1 rfl ?_
    refine g_iload C dL_law_962 6 rfl ?_
    refine g_iconst C dL_law_964 (v := 1) (by decide) ?_
    refine g_iadd C dL_law_965 ?_
    refine g_topi (y := nI (6 * c + 1)) (nI_add (6 * c) 1) ?_
    refine g_scr C hX hb hbA (j := 6 * c + 1) (by omega) (by omega) dL_law_966 ?_
    refine g_topi e1 ?_
    refine g_callViW C dL_law_967 (c_X11_setWind _ _ _ _ _ _ _ _ _ _) tw1485 tw1486 tw1487 tw16 tw1488 (rv_X11 C) rfl ⟨by decide +kernel, by decide +kernel, rfl⟩ ⟨rfl, rfl⟩ (by rw [hR]; exact ⟨Nat.le_of_ble_eq_true rfl, Nat.le_of_ble_eq_true rfl⟩) (Nat.le_of_ble_eq_true rfl) (by rw [hR]; exact ⟨by show k + 1 + 0 ≤ 604801; omega, by show n + 6 + 0 ≤ 7193636; omega⟩) (fun r2 X1 M1 K1 h2_ => ?_)
    obtain ⟨er, hX1, hM1, hK1⟩ := h2_
    rw [if_pos hx] at er hM1
    subst X1 M1 K1
    have heq : (X 100 0 : Int32) = r2 := ((o_wind R p1).1).trans er.symm
    refine g_istore C dL_law_970 (L' := [(7, .int (r2)), (6, .int (0)), (0, .ref b), (1, .ref (gad G 0)), (2, .ref (gad G 42)), (3, .ref (gad G 74)), (4, .ref (gad G 75)), (5, .int (nI (6 * c)))]) rfl (by rw [hL]; decide) ?_
    refine g_aload_n C dL_law_972 4 rfl ?_
    refine g_callViW C dL_law_973 (c_X11_thrown _ _ _ _ _ _ _ _ _) tw1394 tw1395 tw1396 tw16 tw1397 (rv_X11 C) rfl ⟨by decide +kernel, by decide +kernel, rfl⟩ ⟨rfl, rfl⟩ (by rw [hR]; exact ⟨Nat.le_of_ble_eq_true rfl, Nat.le_of_ble_eq_true rfl⟩) (Nat.le_of_ble_eq_true rfl) (by rw [hR]; exact ⟨by show k + 1 + 0 + 0 ≤ 604801; omega, by show n + 6 + 0 + 0 ≤ 7193636; omega⟩) (fun r3 X1 M1 K1 h3 => ?_)
    obtain ⟨er3, hX1, hM1, hK1⟩ := h3
    subst X1 M1 K1
    have e3 : r3 = 0 := er3.trans (by rfl)
    refine g_iload C dL_law_976 1 rfl ?_
    refine g_icmp_eq C dL_law_978 (tgt := 983) (by decide) (fun q => ?_) (fun q => absurd e3 q)
    refine g_iload C dL_law_983 1 rfl ?_
    refine g_if_ne C dL_law_985 (tgt := 1000) (by decide) (fun q => absurd q (by decide)) (fun q => ?_)
    refine g_aload_n C dL_law_988 5 rfl ?_
    refine g_iconst C dL_law_989 (v := 0) (by decide) ?_
    refine al_74 C dL_law_990 ?_
    refine g_topl (y := (X 100 0 : Int32).toInt64) (kO_at _ _) ?_
    refine g_iload C dL_law_991 0 rfl ?_
    refine g_i2l C dL_law_993 ?_
    refine g_lcmpe C (by rw [heq]) dL_law_994 ?_
    refine g_if_eq C dL_law_995 (tgt := 1000) (by decide) (fun q => ?_) (fun q => absurd (by decide) q)
    refine g_goto C dL_law_1000 (tgt := 2415) (by decide) ?_
    exact g_sub [2, 3, 4, 5, 6, 7] rfl (kk _ _ _ _ _ _ _ _ _ _ (I.stay _ (o_wind R p1).2 rfl rfl rfl) ⟨by show k + 1 + 0 + 0 ≤ 100 + 2 * (c + 1) + (K.2.1 4 + K.2.1 5); omega, by show n + 6 + 0 + 0 ≤ 2000 + 520 * (c + 1) + (K.2.1 6 + K.2.1 7); omega⟩)
  · have hx : ¬ xs_wind p1 = 0 := fun q => hc (hcd.trans q)
    refine g_aload_n C dL_law_947 1 rfl ?_
    refine g_aload_n C dL_law_948 0 rfl ?_
    refine g_iload C dL_law_949 5 rfl ?_
    refine g_iconst C dL_law_951 (v := 1) (by decide) ?_
    refine g_iadd C dL_law_952 ?_
    refine g_topi (y := nI (6 * c + 1)) (nI_add (6 * c) 1) ?_
    refine g_scr C hX hb hbA (j := 6 * c + 1) (by omega) (by omega) dL_law_953 ?_
    refine g_topi e1 ?_
    refine g_aload_n C dL_law_954 3 rfl ?_
    refine g_callH C hN (c_L_setWind _ _ _ _ _ _ _ _ _ _ hst) tw868 tw869 tw0 tw870 rfl ⟨by decide +kernel, by decide +kernel, rfl⟩ ⟨rfl, rfl⟩ (by rw [hR]; exact ⟨Nat.le_of_ble_eq_true rfl, Nat.le_of_ble_eq_true rfl⟩) (Nat.le_of_ble_eq_true rfl) dL_law_955 (by rw [hR]; exact ⟨by show k + 1 ≤ 604801; omega, by show n + 6 ≤ 7193636; omega⟩) (fun r1 X1 M1 K1 h1_ => ?_)
    obtain ⟨-, hr1, hX1, hM1, hK1⟩ := h1_.resolve_left (fun q => hc q.1)
    subst X1 M1 K1
    refine g_istore C dL_law_958 (L' := [(6, .int (r1)), (0, .ref b), (1, .ref (gad G 0)), (2, .ref (gad G 42)), (3, .ref (gad G 74)), (4, .ref (gad G 75)), (5, .int (nI (6 * c)))]) rfl (by rw [hL]; decide) ?_
    refine g_aload_n C dL_law_960 3 rfl ?_
    refine g_aload_n C dL_law_961 1 rfl ?_
    refine g_iload C dL_law_962 6 rfl ?_
    refine g_iconst C dL_law_964 (v := 1) (by decide) ?_
    refine g_iadd C dL_law_965 ?_
    refine g_topi (y := nI (6 * c + 1)) (nI_add (6 * c) 1) ?_
    refine g_scr C hX hb hbA (j := 6 * c + 1) (by omega) (by omega) dL_law_966 ?_
    refine g_topi e1 ?_
    refine g_callViW C dL_law_967 (c_X11_setWind _ _ _ _ _ _ _ _ _ _) tw1485 tw1486 tw1487 tw16 tw1488 (rv_X11 C) rfl ⟨by decide +kernel, by decide +kernel, rfl⟩ ⟨rfl, rfl⟩ (by rw [hR]; exact ⟨Nat.le_of_ble_eq_true rfl, Nat.le_of_ble_eq_true rfl⟩) (Nat.le_of_ble_eq_true rfl) (by rw [hR]; exact ⟨by show k + 1 + 0 ≤ 604801; omega, by show n + 6 + 0 ≤ 7193636; omega⟩) (fun r2 X1 M1 K1 h2_ => ?_)
    obtain ⟨er, hX1, hM1, hK1⟩ := h2_
    rw [if_neg hx] at er hM1
    subst X1 M1 K1
    refine g_istore C dL_law_970 (L' := [(7, .int (r2)), (6, .int (r1)), (0, .ref b), (1, .ref (gad G 0)), (2, .ref (gad G 42)), (3, .ref (gad G 74)), (4, .ref (gad G 75)), (5, .int (nI (6 * c)))]) rfl (by rw [hL]; decide) ?_
    refine g_aload_n C dL_law_972 4 rfl ?_
    refine g_callViW C dL_law_973 (c_X11_thrown _ _ _ _ _ _ _ _ _) tw1394 tw1395 tw1396 tw16 tw1397 (rv_X11 C) rfl ⟨by decide +kernel, by decide +kernel, rfl⟩ ⟨rfl, rfl⟩ (by rw [hR]; exact ⟨Nat.le_of_ble_eq_true rfl, Nat.le_of_ble_eq_true rfl⟩) (Nat.le_of_ble_eq_true rfl) (by rw [hR]; exact ⟨by show k + 1 + 0 + 0 ≤ 604801; omega, by show n + 6 + 0 + 0 ≤ 7193636; omega⟩) (fun r3 X1 M1 K1 h3 => ?_)
    obtain ⟨er3, hX1, hM1, hK1⟩ := h3
    subst X1 M1 K1
    have e3 : r3 = xs_wind p1 := er3.trans (by rfl)
    refine g_iload C dL_law_976 1 rfl ?_
    refine g_icmp_eq C dL_law_978 (tgt := 983) (by decide) (fun q => ?_) (fun q => absurd (e3.trans (hcd.symm.trans hr1.symm)) q)
    refine g_iload C dL_law_983 1 rfl ?_
    refine g_if_ne C dL_law_985 (tgt := 1000) (by decide) (fun q => ?_) (fun q => absurd q (fun u => hc (hr1.symm.trans u)))
    refine g_goto C dL_law_1000 (tgt := 2415) (by decide) ?_
    exact g_sub [2, 3, 4, 5, 6, 7] rfl (kk _ _ _ _ _ _ _ _ _ _ (I.no _) ⟨by show k + 1 + 0 + 0 ≤ 100 + 2 * (c + 1) + (K.2.1 4 + K.2.1 5); omega, by show n + 6 + 0 + 0 ≤ 2000 + 520 * (c + 1) + (K.2.1 6 + K.2.1 7); omega⟩)

set_option maxHeartbeats 1000000 in
set_option maxRecDepth 100000 in
theorem lc_strike {G : MC} {b Ln c : Nat} {xs : Nat → Int32} {v z z5 z8 zs : Nat} {X M : XF} {K : KF} {k n : Nat} (E : LawG G b Ln xs) (hcL : 6 * c + 6 ≤ Ln) (I : Inv c v z z5 z8 zs X M K) (hm : rmO c K k n) (kk : LwS G b c) : GH G (WX G X M K) [(0, .ref b), (1, .ref (gad G 0)), (2, .ref (gad G 42)), (3, .ref (gad G 74)), (4, .ref (gad G 75)), (5, .int (nI (6 * c)))] k n 1003 [] := by
  obtain ⟨C, hst, hN, hX, hb, hbA, hLn, hR, hL⟩ := E
  have R := I.rel
  have hc5 : c < 512 := by omega
  have hnum := I.num (by omega)
  have hlen := I.len (by omega)
  obtain ⟨hm1, hm2⟩ := hm
  have hk2 := I.k2
  have hzk := I.zk
  have hsN := I.sN
  obtain ⟨p1, e1⟩ : ∃ p, xs (6 * c + 1) = p := ⟨_, rfl⟩
  have hcd : xk_w 0 99 p1 = (if lin p1.toInt64 0 99 = 0 then (1 : Int32) else 0) := by unfold xk_w; rw [kin p1 0 99 k64_0 k64_99]
  by_cases hc : xk_w 0 99 p1 = 0
  · have hx : (if lin p1.toInt64 0 99 = 0 then (1 : Int32) else 0) = 0 := hcd.symm.trans hc
    refine g_aload_n C dL_law_1003 1 rfl ?_
    refine g_aload_n C dL_law_1004 0 rfl ?_
    refine g_iload C dL_law_1005 5 rfl ?_
    refine g_iconst C dL_law_1007 (v := 1) (by decide) ?_
    refine g_iadd C dL_law_1008 ?_
    refine g_topi (y := nI (6 * c + 1)) (nI_add (6 * c) 1) ?_
    refine g_scr C hX hb hbA (j := 6 * c + 1) (by omega) (by omega) dL_law_1009 ?_
    refine g_topi e1 ?_
    refine g_aload_n C dL_law_1010 3 rfl ?_
    refine g_callH C hN (c_L_strike _ _ _ _ _ _ _ _ _ _ _ R.x1 (by have := R.lv; omega) hst) tw876 tw877 tw0 tw878 rfl ⟨by decide +kernel, by decide +kernel, rfl⟩ ⟨rfl, rfl⟩ (by rw [hR]; exact ⟨Nat.le_of_ble_eq_true rfl, Nat.le_of_ble_eq_true rfl⟩) (Nat.le_of_ble_eq_true rfl) dL_law_1011 (by rw [hR]; exact ⟨by show k + 1 ≤ 604801; omega, by show n + 6 ≤ 7193636; omega⟩) (fun r1 X1 M1 K1 h1_ => ?_)
    obtain ⟨-, rfl, hX1, hM1, hK1⟩ := h1_.resolve_right (fun q => q.1 hc)
    subst X1 M1 K1
    refine g_istore C dL_law_1014 (L' := [(6, .int (0)), (0, .ref b), (1, .ref (gad G 0)), (2, .ref (gad G 42)), (3, .ref (gad G 74)), (4, .ref (gad G 75)), (5, .int (nI (6 * c)))]) rfl (by rw [hL]; decide) ?_
    refine g_aload_n C dL_law_1016 3 rfl ?_
    refine g_aload_n C dL_law_1017 1 rfl ?_
    refine g_iload C dL_law_1018 6 rfl ?_
    refine g_iconst C dL_law_1020 (v := 1) (by decide) ?_
    refine g_iadd C dL_law_1021 ?_
    refine g_topi (y := nI (6 * c + 1)) (nI_add (6 * c) 1) ?_
    refine g_scr C hX hb hbA (j := 6 * c + 1) (by omega) (by omega) dL_law_1022 ?_
    refine g_topi e1 ?_
    refine g_callViW C dL_law_1023 (c_X11_strike _ _ _ _ _ _ _ _ _ _ _ R.xs (by have := I.zc; omega) hzk hsN) tw1490 tw1491 tw1492 tw16 tw1493 (rv_X11 C) rfl ⟨by decide +kernel, by decide +kernel, rfl⟩ ⟨rfl, rfl⟩ (by rw [hR]; exact ⟨Nat.le_of_ble_eq_true rfl, Nat.le_of_ble_eq_true rfl⟩) (Nat.le_of_ble_eq_true rfl) (by rw [hR]; exact ⟨by show k + 1 + 1 ≤ 604801; omega, by show n + 6 + 512 ≤ 7193636; omega⟩) (fun r2 X1 M1 K1 h2_ => ?_)
    obtain ⟨hX1, hp⟩ := h2_
    subst X1
    obtain ⟨o1, o2, o3, ⟨⟨o4, o5⟩, o6, o7⟩, zs1, hI⟩ := iv_strike I hc5 p1 hc _ hp
    have heq : ((if 20 < p1 then X 104 0 else X 104 0 + 1) : Int32) = r2 := o1
    refine g_istore C dL_law_1026 (L' := [(7, .int (r2)), (6, .int (0)), (0, .ref b), (1, .ref (gad G 0)), (2, .ref (gad G 42)), (3, .ref (gad G 74)), (4, .ref (gad G 75)), (5, .int (nI (6 * c)))]) rfl (by rw [hL]; decide) ?_
    refine g_aload_n C dL_law_1028 4 rfl ?_
    refine g_callViW C dL_law_1029 (c_X11_thrown _ _ _ _ _ _ _ _ _) tw1394 tw1395 tw1396 tw16 tw1397 (rv_X11 C) rfl ⟨by decide +kernel, by decide +kernel, rfl⟩ ⟨rfl, rfl⟩ (by rw [hR]; exact ⟨Nat.le_of_ble_eq_true rfl, Nat.le_of_ble_eq_true rfl⟩) (Nat.le_of_ble_eq_true rfl) (by rw [hR]; exact ⟨by show k + 1 + 1 + 0 ≤ 604801; omega, by show n + 6 + 512 + 0 ≤ 7193636; omega⟩) (fun r3 X1 M1 K1 h3 => ?_)
    obtain ⟨er3, hX1, hM1, hK1⟩ := h3
    subst X1 M1 K1
    have e3 : r3 = 0 := er3.trans o2
    refine g_iload C dL_law_1032 1 rfl ?_
    refine g_icmp_eq C dL_law_1034 (tgt := 1039) (by decide) (fun q => ?_) (fun q => absurd e3 q)
    refine g_iload C dL_law_1039 1 rfl ?_
    refine g_if_ne C dL_law_1041 (tgt := 1056) (by decide) (fun q => absurd q (by decide)) (fun q => ?_)
    refine g_aload_n C dL_law_1044 5 rfl ?_
    refine g_iconst C dL_law_1045 (v := 0) (by decide) ?_
    refine al_74 C dL_law_1046 ?_
    refine g_topl (y := ((if 20 < p1 then X 104 0 else X 104 0 + 1) : Int32).toInt64) (by rw [o3]; exact kO_at _ _) ?_
    refine g_iload C dL_law_1047 0 rfl ?_
    refine g_i2l C dL_law_1049 ?_
    refine g_lcmpe C (by rw [heq]) dL_law_1050 ?_
    refine g_if_eq C dL_law_1051 (tgt := 1056) (by decide) (fun q => ?_) (fun q => absurd (by decide) q)
    refine g_goto C dL_law_1056 (tgt := 2415) (by decide) ?_
    exact g_sub [2, 3, 4, 5, 6, 7] rfl (kk _ _ _ _ _ _ _ _ _ _ hI ⟨by show k + 1 + 1 + 0 ≤ 100 + 2 * (c + 1) + (K1.2.1 4 + K1.2.1 5); omega, by show n + 6 + 512 + 0 ≤ 2000 + 520 * (c + 1) + (K1.2.1 6 + K1.2.1 7); omega⟩)
  · have hx : ¬ (if lin p1.toInt64 0 99 = 0 then (1 : Int32) else 0) = 0 := fun q => hc (hcd.trans q)
    have hl : lin p1.toInt64 0 99 = 0 := Classical.byContradiction (fun q => hx (if_neg q))
    refine g_aload_n C dL_law_1003 1 rfl ?_
    refine g_aload_n C dL_law_1004 0 rfl ?_
    refine g_iload C dL_law_1005 5 rfl ?_
    refine g_iconst C dL_law_1007 (v := 1) (by decide) ?_
    refine g_iadd C dL_law_1008 ?_
    refine g_topi (y := nI (6 * c + 1)) (nI_add (6 * c) 1) ?_
    refine g_scr C hX hb hbA (j := 6 * c + 1) (by omega) (by omega) dL_law_1009 ?_
    refine g_topi e1 ?_
    refine g_aload_n C dL_law_1010 3 rfl ?_
    refine g_callH C hN (c_L_strike _ _ _ _ _ _ _ _ _ _ _ R.x1 (by have := R.lv; omega) hst) tw876 tw877 tw0 tw878 rfl ⟨by decide +kernel, by decide +kernel, rfl⟩ ⟨rfl, rfl⟩ (by rw [hR]; exact ⟨Nat.le_of_ble_eq_true rfl, Nat.le_of_ble_eq_true rfl⟩) (Nat.le_of_ble_eq_true rfl) dL_law_1011 (by rw [hR]; exact ⟨by show k + 1 ≤ 604801; omega, by show n + 6 ≤ 7193636; omega⟩) (fun r1 X1 M1 K1 h1_ => ?_)
    obtain ⟨-, hr1, hX1, hM1, hK1⟩ := h1_.resolve_left (fun q => hc q.1)
    subst X1 M1 K1
    refine g_istore C dL_law_1014 (L' := [(6, .int (r1)), (0, .ref b), (1, .ref (gad G 0)), (2, .ref (gad G 42)), (3, .ref (gad G 74)), (4, .ref (gad G 75)), (5, .int (nI (6 * c)))]) rfl (by rw [hL]; decide) ?_
    refine g_aload_n C dL_law_1016 3 rfl ?_
    refine g_aload_n C dL_law_1017 1 rfl ?_
    refine g_iload C dL_law_1018 6 rfl ?_
    refine g_iconst C dL_law_1020 (v := 1) (by decide) ?_
    refine g_iadd C dL_law_1021 ?_
    refine g_topi (y := nI (6 * c + 1)) (nI_add (6 * c) 1) ?_
    refine g_scr C hX hb hbA (j := 6 * c + 1) (by omega) (by omega) dL_law_1022 ?_
    refine g_topi e1 ?_
    refine g_callViW C dL_law_1023 (c_X11_strike _ _ _ _ _ _ _ _ _ _ _ R.xs (by have := I.zc; omega) hzk hsN) tw1490 tw1491 tw1492 tw16 tw1493 (rv_X11 C) rfl ⟨by decide +kernel, by decide +kernel, rfl⟩ ⟨rfl, rfl⟩ (by rw [hR]; exact ⟨Nat.le_of_ble_eq_true rfl, Nat.le_of_ble_eq_true rfl⟩) (Nat.le_of_ble_eq_true rfl) (by rw [hR]; exact ⟨by show k + 1 + 1 ≤ 604801; omega, by show n + 6 + 512 ≤ 7193636; omega⟩) (fun r2 X1 M1 K1 h2_ => ?_)
    obtain ⟨hX1, hp⟩ := h2_
    subst X1
    unfold st_post at hp
    rw [if_pos hl] at hp
    obtain ⟨er, hM1, hK1⟩ := hp
    subst M1 K1
    refine g_istore C dL_law_1026 (L' := [(7, .int (r2)), (6, .int (r1)), (0, .ref b), (1, .ref (gad G 0)), (2, .ref (gad G 42)), (3, .ref (gad G 74)), (4, .ref (gad G 75)), (5, .int (nI (6 * c)))]) rfl (by rw [hL]; decide) ?_
    refine g_aload_n C dL_law_1028 4 rfl ?_
    refine g_callViW C dL_law_1029 (c_X11_thrown _ _ _ _ _ _ _ _ _) tw1394 tw1395 tw1396 tw16 tw1397 (rv_X11 C) rfl ⟨by decide +kernel, by decide +kernel, rfl⟩ ⟨rfl, rfl⟩ (by rw [hR]; exact ⟨Nat.le_of_ble_eq_true rfl, Nat.le_of_ble_eq_true rfl⟩) (Nat.le_of_ble_eq_true rfl) (by rw [hR]; exact ⟨by show k + 1 + 1 + 0 ≤ 604801; omega, by show n + 6 + 512 + 0 ≤ 7193636; omega⟩) (fun r3 X1 M1 K1 h3 => ?_)
    obtain ⟨er3, hX1, hM1, hK1⟩ := h3
    subst X1 M1 K1
    have e3 : r3 = (if lin p1.toInt64 0 99 = 0 then (1 : Int32) else 0) := er3.trans (show (1 : Int32) = _ from (if_pos hl).symm)
    refine g_iload C dL_law_1032 1 rfl ?_
    refine g_icmp_eq C dL_law_1034 (tgt := 1039) (by decide) (fun q => ?_) (fun q => absurd (e3.trans (hcd.symm.trans hr1.symm)) q)
    refine g_iload C dL_law_1039 1 rfl ?_
    refine g_if_ne C dL_law_1041 (tgt := 1056) (by decide) (fun q => ?_) (fun q => absurd q (fun u => hc (hr1.symm.trans u)))
    refine g_goto C dL_law_1056 (tgt := 2415) (by decide) ?_
    exact g_sub [2, 3, 4, 5, 6, 7] rfl (kk _ _ _ _ _ _ _ _ _ _ (I.no 1) ⟨by show k + 1 + 1 + 0 ≤ 100 + 2 * (c + 1) + (K.2.1 4 + K.2.1 5); omega, by show n + 6 + 512 + 0 ≤ 2000 + 520 * (c + 1) + (K.2.1 6 + K.2.1 7); omega⟩)

set_option maxHeartbeats 1000000 in
set_option maxRecDepth 100000 in
theorem lc_boat {G : MC} {b Ln c : Nat} {xs : Nat → Int32} {v z z5 z8 zs : Nat} {X M : XF} {K : KF} {k n : Nat} (E : LawG G b Ln xs) (hcL : 6 * c + 6 ≤ Ln) (I : Inv c v z z5 z8 zs X M K) (hm : rmO c K k n) (kk : LwS G b c) : GH G (WX G X M K) [(0, .ref b), (1, .ref (gad G 0)), (2, .ref (gad G 42)), (3, .ref (gad G 74)), (4, .ref (gad G 75)), (5, .int (nI (6 * c)))] k n 1059 [] := by
  obtain ⟨C, hst, hN, hX, hb, hbA, hLn, hR, hL⟩ := E
  have R := I.rel
  have hc5 : c < 512 := by omega
  have hnum := I.num (by omega)
  have hlen := I.len (by omega)
  obtain ⟨hm1, hm2⟩ := hm
  have hk2 := I.k2
  have hzk := I.zk
  have hsN := I.sN
  obtain ⟨p1, e1⟩ : ∃ p, xs (6 * c + 1) = p := ⟨_, rfl⟩
  obtain ⟨p2, e2⟩ : ∃ p, xs (6 * c + 2) = p := ⟨_, rfl⟩
  obtain ⟨p3, e3⟩ : ∃ p, xs (6 * c + 3) = p := ⟨_, rfl⟩
  have hcd : xk_boat p1 p2 p3 = xs_boat p1 p2 p3 := by exact cd_boat _ _ _
  by_cases hc : xk_boat p1 p2 p3 = 0
  · have hx : xs_boat p1 p2 p3 = 0 := hcd.symm.trans hc
    refine g_aload_n C dL_law_1059 1 rfl ?_
    refine g_aload_n C dL_law_1060 0 rfl ?_
    refine g_iload C dL_law_1061 5 rfl ?_
    refine g_iconst C dL_law_1063 (v := 1) (by decide) ?_
    refine g_iadd C dL_law_1064 ?_
    refine g_topi (y := nI (6 * c + 1)) (nI_add (6 * c) 1) ?_
    refine g_scr C hX hb hbA (j := 6 * c + 1) (by omega) (by omega) dL_law_1065 ?_
    refine g_topi e1 ?_
    refine g_aload_n C dL_law_1066 0 rfl ?_
    refine g_iload C dL_law_1067 5 rfl ?_
    refine g_iconst C dL_law_1069 (v := 2) (by decide) ?_
    refine g_iadd C dL_law_1070 ?_
    refine g_topi (y := nI (6 * c + 2)) (nI_add (6 * c) 2) ?_
    refine g_scr C hX hb hbA (j := 6 * c + 2) (by omega) (by omega) dL_law_1071 ?_
    refine g_topi e2 ?_
    refine g_aload_n C dL_law_1072 0 rfl ?_
    refine g_iload C dL_law_1073 5 rfl ?_
    refine g_iconst C dL_law_1075 (v := 3) (by decide) ?_
    refine g_iadd C dL_law_1076 ?_
    refine g_topi (y := nI (6 * c + 3)) (nI_add (6 * c) 3) ?_
    refine g_scr C hX hb hbA (j := 6 * c + 3) (by omega) (by omega) dL_law_1077 ?_
    refine g_topi e3 ?_
    refine g_aload_n C dL_law_1078 3 rfl ?_
    refine g_callH C hN (c_L_boat _ _ _ _ _ _ _ _ _ _ _ _ hst) tw888 tw889 tw0 tw890 rfl ⟨by decide +kernel, by decide +kernel, rfl⟩ ⟨rfl, rfl⟩ (by rw [hR]; exact ⟨Nat.le_of_ble_eq_true rfl, Nat.le_of_ble_eq_true rfl⟩) (Nat.le_of_ble_eq_true rfl) dL_law_1079 (by rw [hR]; exact ⟨by show k + 1 ≤ 604801; omega, by show n + 6 ≤ 7193636; omega⟩) (fun r1 X1 M1 K1 h1_ => ?_)
    obtain ⟨-, rfl, hX1, hM1, hK1⟩ := h1_.resolve_right (fun q => q.1 hc)
    subst X1 M1 K1
    refine g_istore C dL_law_1082 (L' := [(6, .int (0)), (0, .ref b), (1, .ref (gad G 0)), (2, .ref (gad G 42)), (3, .ref (gad G 74)), (4, .ref (gad G 75)), (5, .int (nI (6 * c)))]) rfl (by rw [hL]; decide) ?_
    refine g_aload_n C dL_law_1084 3 rfl ?_
    refine g_aload_n C dL_law_1085 1 rfl ?_
    refine g_iload C dL_law_1086 6 rfl ?_
    refine g_iconst C dL_law_1088 (v := 1) (by decide) ?_
    refine g_iadd C dL_law_1089 ?_
    refine g_topi (y := nI (6 * c + 1)) (nI_add (6 * c) 1) ?_
    refine g_scr C hX hb hbA (j := 6 * c + 1) (by omega) (by omega) dL_law_1090 ?_
    refine g_topi e1 ?_
    refine g_aload_n C dL_law_1091 1 rfl ?_
    refine g_iload C dL_law_1092 6 rfl ?_
    refine g_iconst C dL_law_1094 (v := 2) (by decide) ?_
    refine g_iadd C dL_law_1095 ?_
    refine g_topi (y := nI (6 * c + 2)) (nI_add (6 * c) 2) ?_
    refine g_scr C hX hb hbA (j := 6 * c + 2) (by omega) (by omega) dL_law_1096 ?_
    refine g_topi e2 ?_
    refine g_aload_n C dL_law_1097 1 rfl ?_
    refine g_iload C dL_law_1098 6 rfl ?_
    refine g_iconst C dL_law_1100 (v := 3) (by decide) ?_
    refine g_iadd C dL_law_1101 ?_
    refine g_topi (y := nI (6 * c + 3)) (nI_add (6 * c) 3) ?_
    refine g_scr C hX hb hbA (j := 6 * c + 3) (by omega) (by omega) dL_law_1102 ?_
    refine g_topi e3 ?_
    refine g_callViW C dL_law_1103 (c_X11_boat _ _ _ _ _ _ _ _ _ _ _ _) tw1499 tw1500 tw1501 tw16 tw1502 (rv_X11 C) rfl ⟨by decide +kernel, by decide +kernel, rfl⟩ ⟨rfl, rfl⟩ (by rw [hR]; exact ⟨Nat.le_of_ble_eq_true rfl, Nat.le_of_ble_eq_true rfl⟩) (Nat.le_of_ble_eq_true rfl) (by rw [hR]; exact ⟨by show k + 1 + 0 ≤ 604801; omega, by show n + 6 + 0 ≤ 7193636; omega⟩) (fun r2 X1 M1 K1 h2_ => ?_)
    obtain ⟨er, hX1, hM1, hK1⟩ := h2_
    rw [if_pos hx] at er hM1
    subst X1 M1 K1
    have heq : (bt_sum (upd (X 23) p1.toNatClampNeg (bt_risk p2 p3)) 8 : Int32) = r2 := ((o_boat R p1 p2 p3).1).trans er.symm
    refine g_istore C dL_law_1106 (L' := [(7, .int (r2)), (6, .int (0)), (0, .ref b), (1, .ref (gad G 0)), (2, .ref (gad G 42)), (3, .ref (gad G 74)), (4, .ref (gad G 75)), (5, .int (nI (6 * c)))]) rfl (by rw [hL]; decide) ?_
    refine g_aload_n C dL_law_1108 4 rfl ?_
    refine g_callViW C dL_law_1109 (c_X11_thrown _ _ _ _ _ _ _ _ _) tw1394 tw1395 tw1396 tw16 tw1397 (rv_X11 C) rfl ⟨by decide +kernel, by decide +kernel, rfl⟩ ⟨rfl, rfl⟩ (by rw [hR]; exact ⟨Nat.le_of_ble_eq_true rfl, Nat.le_of_ble_eq_true rfl⟩) (Nat.le_of_ble_eq_true rfl) (by rw [hR]; exact ⟨by show k + 1 + 0 + 0 ≤ 604801; omega, by show n + 6 + 0 + 0 ≤ 7193636; omega⟩) (fun r3 X1 M1 K1 h3 => ?_)
    obtain ⟨er3, hX1, hM1, hK1⟩ := h3
    subst X1 M1 K1
    have e3 : r3 = 0 := er3.trans (by rfl)
    refine g_iload C dL_law_1112 1 rfl ?_
    refine g_icmp_eq C dL_law_1114 (tgt := 1119) (by decide) (fun q => ?_) (fun q => absurd e3 q)
    refine g_iload C dL_law_1119 1 rfl ?_
    refine g_if_ne C dL_law_1121 (tgt := 1136) (by decide) (fun q => absurd q (by decide)) (fun q => ?_)
    refine g_aload_n C dL_law_1124 5 rfl ?_
    refine g_iconst C dL_law_1125 (v := 0) (by decide) ?_
    refine al_74 C dL_law_1126 ?_
    refine g_topl (y := (bt_sum (upd (X 23) p1.toNatClampNeg (bt_risk p2 p3)) 8 : Int32).toInt64) (kO_at _ _) ?_
    refine g_iload C dL_law_1127 0 rfl ?_
    refine g_i2l C dL_law_1129 ?_
    refine g_lcmpe C (by rw [heq]) dL_law_1130 ?_
    refine g_if_eq C dL_law_1131 (tgt := 1136) (by decide) (fun q => ?_) (fun q => absurd (by decide) q)
    refine g_goto C dL_law_1136 (tgt := 2415) (by decide) ?_
    exact g_sub [2, 3, 4, 5, 6, 7] rfl (kk _ _ _ _ _ _ _ _ _ _ (I.stay _ (o_boat R p1 p2 p3).2 rfl rfl rfl) ⟨by show k + 1 + 0 + 0 ≤ 100 + 2 * (c + 1) + (K.2.1 4 + K.2.1 5); omega, by show n + 6 + 0 + 0 ≤ 2000 + 520 * (c + 1) + (K.2.1 6 + K.2.1 7); omega⟩)
  · have hx : ¬ xs_boat p1 p2 p3 = 0 := fun q => hc (hcd.trans q)
    refine g_aload_n C dL_law_1059 1 rfl ?_
    refine g_aload_n C dL_law_1060 0 rfl ?_
    refine g_iload C dL_law_1061 5 rfl ?_
    refine g_iconst C dL_law_1063 (v := 1) (by decide) ?_
    refine g_iadd C dL_law_1064 ?_
    refine g_topi (y := nI (6 * c + 1)) (nI_add (6 * c) 1) ?_
    refine g_scr C hX hb hbA (j := 6 * c + 1) (by omega) (by omega) dL_law_1065 ?_
    refine g_topi e1 ?_
    refine g_aload_n C dL_law_1066 0 rfl ?_
    refine g_iload C dL_law_1067 5 rfl ?_
    refine g_iconst C dL_law_1069 (v := 2) (by decide) ?_
    refine g_iadd C dL_law_1070 ?_
    refine g_topi (y := nI (6 * c + 2)) (nI_add (6 * c) 2) ?_
    refine g_scr C hX hb hbA (j := 6 * c + 2) (by omega) (by omega) dL_law_1071 ?_
    refine g_topi e2 ?_
    refine g_aload_n C dL_law_1072 0 rfl ?_
    refine g_iload C dL_law_1073 5 rfl ?_
    refine g_iconst C dL_law_1075 (v := 3) (by decide) ?_
    refine g_iadd C dL_law_1076 ?_
    refine g_topi (y := nI (6 * c + 3)) (nI_add (6 * c) 3) ?_
    refine g_scr C hX hb hbA (j := 6 * c + 3) (by omega) (by omega) dL_law_1077 ?_
    refine g_topi e3 ?_
    refine g_aload_n C dL_law_1078 3 rfl ?_
    refine g_callH C hN (c_L_boat _ _ _ _ _ _ _ _ _ _ _ _ hst) tw888 tw889 tw0 tw890 rfl ⟨by decide +kernel, by decide +kernel, rfl⟩ ⟨rfl, rfl⟩ (by rw [hR]; exact ⟨Nat.le_of_ble_eq_true rfl, Nat.le_of_ble_eq_true rfl⟩) (Nat.le_of_ble_eq_true rfl) dL_law_1079 (by rw [hR]; exact ⟨by show k + 1 ≤ 604801; omega, by show n + 6 ≤ 7193636; omega⟩) (fun r1 X1 M1 K1 h1_ => ?_)
    obtain ⟨-, hr1, hX1, hM1, hK1⟩ := h1_.resolve_left (fun q => hc q.1)
    subst X1 M1 K1
    refine g_istore C dL_law_1082 (L' := [(6, .int (r1)), (0, .ref b), (1, .ref (gad G 0)), (2, .ref (gad G 42)), (3, .ref (gad G 74)), (4, .ref (gad G 75)), (5, .int (nI (6 * c)))]) rfl (by rw [hL]; decide) ?_
    refine g_aload_n C dL_law_1084 3 rfl ?_
    refine g_aload_n C dL_law_1085 1 rfl ?_
    refine g_iload C dL_law_1086 6 rfl ?_
    refine g_iconst C dL_law_1088 (v := 1) (by decide) ?_
    refine g_iadd C dL_law_1089 ?_
    refine g_topi (y := nI (6 * c + 1)) (nI_add (6 * c) 1) ?_
    refine g_scr C hX hb hbA (j := 6 * c + 1) (by omega) (by omega) dL_law_1090 ?_
    refine g_topi e1 ?_
    refine g_aload_n C dL_law_1091 1 rfl ?_
    refine g_iload C dL_law_1092 6 rfl ?_
    refine g_iconst C dL_law_1094 (v := 2) (by decide) ?_
    refine g_iadd C dL_law_1095 ?_
    refine g_topi (y := nI (6 * c + 2)) (nI_add (6 * c) 2) ?_
    refine g_scr C hX hb hbA (j := 6 * c + 2) (by omega) (by omega) dL_law_1096 ?_
    refine g_topi e2 ?_
    refine g_aload_n C dL_law_1097 1 rfl ?_
    refine g_iload C dL_law_1098 6 rfl ?_
    refine g_iconst C dL_law_1100 (v := 3) (by decide) ?_
    refine g_iadd C dL_law_1101 ?_
    refine g_topi (y := nI (6 * c + 3)) (nI_add (6 * c) 3) ?_
    refine g_scr C hX hb hbA (j := 6 * c + 3) (by omega) (by omega) dL_law_1102 ?_
    refine g_topi e3 ?_
    refine g_callViW C dL_law_1103 (c_X11_boat _ _ _ _ _ _ _ _ _ _ _ _) tw1499 tw1500 tw1501 tw16 tw1502 (rv_X11 C) rfl ⟨by decide +kernel, by decide +kernel, rfl⟩ ⟨rfl, rfl⟩ (by rw [hR]; exact ⟨Nat.le_of_ble_eq_true rfl, Nat.le_of_ble_eq_true rfl⟩) (Nat.le_of_ble_eq_true rfl) (by rw [hR]; exact ⟨by show k + 1 + 0 ≤ 604801; omega, by show n + 6 + 0 ≤ 7193636; omega⟩) (fun r2 X1 M1 K1 h2_ => ?_)
    obtain ⟨er, hX1, hM1, hK1⟩ := h2_
    rw [if_neg hx] at er hM1
    subst X1 M1 K1
    refine g_istore C dL_law_1106 (L' := [(7, .int (r2)), (6, .int (r1)), (0, .ref b), (1, .ref (gad G 0)), (2, .ref (gad G 42)), (3, .ref (gad G 74)), (4, .ref (gad G 75)), (5, .int (nI (6 * c)))]) rfl (by rw [hL]; decide) ?_
    refine g_aload_n C dL_law_1108 4 rfl ?_
    refine g_callViW C dL_law_1109 (c_X11_thrown _ _ _ _ _ _ _ _ _) tw1394 tw1395 tw1396 tw16 tw1397 (rv_X11 C) rfl ⟨by decide +kernel, by decide +kernel, rfl⟩ ⟨rfl, rfl⟩ (by rw [hR]; exact ⟨Nat.le_of_ble_eq_true rfl, Nat.le_of_ble_eq_true rfl⟩) (Nat.le_of_ble_eq_true rfl) (by rw [hR]; exact ⟨by show k + 1 + 0 + 0 ≤ 604801; omega, by show n + 6 + 0 + 0 ≤ 7193636; omega⟩) (fun r3 X1 M1 K1 h3 => ?_)
    obtain ⟨er3, hX1, hM1, hK1⟩ := h3
    subst X1 M1 K1
    have e3 : r3 = xs_boat p1 p2 p3 := er3.trans (by rfl)
    refine g_iload C dL_law_1112 1 rfl ?_
    refine g_icmp_eq C dL_law_1114 (tgt := 1119) (by decide) (fun q => ?_) (fun q => absurd (e3.trans (hcd.symm.trans hr1.symm)) q)
    refine g_iload C dL_law_1119 1 rfl ?_
    refine g_if_ne C dL_law_1121 (tgt := 1136) (by decide) (fun q => ?_) (fun q => absurd q (fun u => hc (hr1.symm.trans u)))
    refine g_goto C dL_law_1136 (tgt := 2415) (by decide) ?_
    exact g_sub [2, 3, 4, 5, 6, 7] rfl (kk _ _ _ _ _ _ _ _ _ _ (I.no _) ⟨by show k + 1 + 0 + 0 ≤ 100 + 2 * (c + 1) + (K.2.1 4 + K.2.1 5); omega, by show n + 6 + 0 + 0 ≤ 2000 + 520 * (c + 1) + (K.2.1 6 + K.2.1 7); omega⟩)

set_option maxHeartbeats 1000000 in
set_option maxRecDepth 100000 in
theorem lc_addRule {G : MC} {b Ln c : Nat} {xs : Nat → Int32} {v z z5 z8 zs : Nat} {X M : XF} {K : KF} {k n : Nat} (E : LawG G b Ln xs) (hcL : 6 * c + 6 ≤ Ln) (I : Inv c v z z5 z8 zs X M K) (hm : rmO c K k n) (kk : LwS G b c) : GH G (WX G X M K) [(0, .ref b), (1, .ref (gad G 0)), (2, .ref (gad G 42)), (3, .ref (gad G 74)), (4, .ref (gad G 75)), (5, .int (nI (6 * c)))] k n 1139 [] := by
  obtain ⟨C, hst, hN, hX, hb, hbA, hLn, hR, hL⟩ := E
  have R := I.rel
  have hc5 : c < 512 := by omega
  have hnum := I.num (by omega)
  have hlen := I.len (by omega)
  obtain ⟨hm1, hm2⟩ := hm
  have hk2 := I.k2
  have hzk := I.zk
  have hsN := I.sN
  obtain ⟨p1, e1⟩ : ∃ p, lcc (xs (6 * c + 1)) = p := ⟨_, rfl⟩
  have h1 : isCh p1 := by rw [← e1]; exact lcc_ch _
  obtain ⟨p2, e2⟩ : ∃ p, xs (6 * c + 2) = p := ⟨_, rfl⟩
  obtain ⟨p3, e3⟩ : ∃ p, xs (6 * c + 3) = p := ⟨_, rfl⟩
  obtain ⟨p4, e4⟩ : ∃ p, xs (6 * c + 4) = p := ⟨_, rfl⟩
  obtain ⟨p5, e5⟩ : ∃ p, xs (6 * c + 5) = p := ⟨_, rfl⟩
  have hcd : xk_rule (nI z) p1 p2 p3 p4 p5 = xs_rule (M 117 0) p1 p2 p3 p4 p5 := by rw [R.m6]; exact cd_rule R.l6 _ _ _ _ _
  by_cases hc : xk_rule (nI z) p1 p2 p3 p4 p5 = 0
  · have hx : xs_rule (M 117 0) p1 p2 p3 p4 p5 = 0 := hcd.symm.trans hc
    refine g_aload_n C dL_law_1139 1 rfl ?_
    refine g_aload_n C dL_law_1140 0 rfl ?_
    refine g_iload C dL_law_1141 5 rfl ?_
    refine g_iconst C dL_law_1143 (v := 1) (by decide) ?_
    refine g_iadd C dL_law_1144 ?_
    refine g_topi (y := nI (6 * c + 1)) (nI_add (6 * c) 1) ?_
    refine g_scr C hX hb hbA (j := 6 * c + 1) (by omega) (by omega) dL_law_1145 ?_
    refine g_i2c C dL_law_1146 ?_
    refine g_topi (y := p1) e1 ?_
    refine g_aload_n C dL_law_1147 0 rfl ?_
    refine g_iload C dL_law_1148 5 rfl ?_
    refine g_iconst C dL_law_1150 (v := 2) (by decide) ?_
    refine g_iadd C dL_law_1151 ?_
    refine g_topi (y := nI (6 * c + 2)) (nI_add (6 * c) 2) ?_
    refine g_scr C hX hb hbA (j := 6 * c + 2) (by omega) (by omega) dL_law_1152 ?_
    refine g_topi e2 ?_
    refine g_aload_n C dL_law_1153 0 rfl ?_
    refine g_iload C dL_law_1154 5 rfl ?_
    refine g_iconst C dL_law_1156 (v := 3) (by decide) ?_
    refine g_iadd C dL_law_1157 ?_
    refine g_topi (y := nI (6 * c + 3)) (nI_add (6 * c) 3) ?_
    refine g_scr C hX hb hbA (j := 6 * c + 3) (by omega) (by omega) dL_law_1158 ?_
    refine g_topi e3 ?_
    refine g_aload_n C dL_law_1159 0 rfl ?_
    refine g_iload C dL_law_1160 5 rfl ?_
    refine g_iconst C dL_law_1162 (v := 4) (by decide) ?_
    refine g_iadd C dL_law_1163 ?_
    refine g_topi (y := nI (6 * c + 4)) (nI_add (6 * c) 4) ?_
    refine g_scr C hX hb hbA (j := 6 * c + 4) (by omega) (by omega) dL_law_1164 ?_
    refine g_topi e4 ?_
    refine g_aload_n C dL_law_1165 0 rfl ?_
    refine g_iload C dL_law_1166 5 rfl ?_
    refine g_iconst C dL_law_1168 (v := 5) (by decide) ?_
    refine g_iadd C dL_law_1169 ?_
    refine g_topi (y := nI (6 * c + 5)) (nI_add (6 * c) 5) ?_
    refine g_scr C hX hb hbA (j := 6 * c + 5) (by omega) (by omega) dL_law_1170 ?_
    refine g_topi e5 ?_
    refine g_aload_n C dL_law_1171 3 rfl ?_
    refine g_callH C hN (c_L_addRule _ _ _ _ _ _ _ _ _ _ _ _ _ _ h1 _ R.x6 R.l6 hst) tw900 tw901 tw0 tw902 rfl ⟨by decide +kernel, by decide +kernel, rfl⟩ ⟨rfl, rfl⟩ (by rw [hR]; exact ⟨Nat.le_of_ble_eq_true rfl, Nat.le_of_ble_eq_true rfl⟩) (Nat.le_of_ble_eq_true rfl) dL_law_1172 (by rw [hR]; exact ⟨by show k + 1 ≤ 604801; omega, by show n + 6 ≤ 7193636; omega⟩) (fun r1 X1 M1 K1 h1_ => ?_)
    obtain ⟨-, rfl, hX1, hM1, hK1⟩ := h1_.resolve_right (fun q => q.1 hc)
    subst X1 M1 K1
    refine g_istore C dL_law_1175 (L' := [(6, .int (0)), (0, .ref b), (1, .ref (gad G 0)), (2, .ref (gad G 42)), (3, .ref (gad G 74)), (4, .ref (gad G 75)), (5, .int (nI (6 * c)))]) rfl (by rw [hL]; decide) ?_
    refine g_aload_n C dL_law_1177 3 rfl ?_
    refine g_aload_n C dL_law_1178 1 rfl ?_
    refine g_iload C dL_law_1179 6 rfl ?_
    refine g_iconst C dL_law_1181 (v := 1) (by decide) ?_
    refine g_iadd C dL_law_1182 ?_
    refine g_topi (y := nI (6 * c + 1)) (nI_add (6 * c) 1) ?_
    refine g_scr C hX hb hbA (j := 6 * c + 1) (by omega) (by omega) dL_law_1183 ?_
    refine g_i2c C dL_law_1184 ?_
    refine g_topi (y := p1) e1 ?_
    refine g_aload_n C dL_law_1185 1 rfl ?_
    refine g_iload C dL_law_1186 6 rfl ?_
    refine g_iconst C dL_law_1188 (v := 2) (by decide) ?_
    refine g_iadd C dL_law_1189 ?_
    refine g_topi (y := nI (6 * c + 2)) (nI_add (6 * c) 2) ?_
    refine g_scr C hX hb hbA (j := 6 * c + 2) (by omega) (by omega) dL_law_1190 ?_
    refine g_topi e2 ?_
    refine g_aload_n C dL_law_1191 1 rfl ?_
    refine g_iload C dL_law_1192 6 rfl ?_
    refine g_iconst C dL_law_1194 (v := 3) (by decide) ?_
    refine g_iadd C dL_law_1195 ?_
    refine g_topi (y := nI (6 * c + 3)) (nI_add (6 * c) 3) ?_
    refine g_scr C hX hb hbA (j := 6 * c + 3) (by omega) (by omega) dL_law_1196 ?_
    refine g_topi e3 ?_
    refine g_aload_n C dL_law_1197 1 rfl ?_
    refine g_iload C dL_law_1198 6 rfl ?_
    refine g_iconst C dL_law_1200 (v := 4) (by decide) ?_
    refine g_iadd C dL_law_1201 ?_
    refine g_topi (y := nI (6 * c + 4)) (nI_add (6 * c) 4) ?_
    refine g_scr C hX hb hbA (j := 6 * c + 4) (by omega) (by omega) dL_law_1202 ?_
    refine g_topi e4 ?_
    refine g_aload_n C dL_law_1203 1 rfl ?_
    refine g_iload C dL_law_1204 6 rfl ?_
    refine g_iconst C dL_law_1206 (v := 5) (by decide) ?_
    refine g_iadd C dL_law_1207 ?_
    refine g_topi (y := nI (6 * c + 5)) (nI_add (6 * c) 5) ?_
    refine g_scr C hX hb hbA (j := 6 * c + 5) (by omega) (by omega) dL_law_1208 ?_
    refine g_topi e5 ?_
    refine g_callViW C dL_law_1209 (c_X11_addRule _ _ _ _ _ _ _ _ _ _ _ _ _ _ h1 _ R.m6 R.l6) tw1509 tw1510 tw1511 tw16 tw1512 (rv_X11 C) rfl ⟨by decide +kernel, by decide +kernel, rfl⟩ ⟨rfl, rfl⟩ (by rw [hR]; exact ⟨Nat.le_of_ble_eq_true rfl, Nat.le_of_ble_eq_true rfl⟩) (Nat.le_of_ble_eq_true rfl) (by rw [hR]; exact ⟨by show k + 1 + 0 ≤ 604801; omega, by show n + 6 + 0 ≤ 7193636; omega⟩) (fun r2 X1 M1 K1 h2_ => ?_)
    obtain ⟨er, hX1, hM1, hK1⟩ := h2_
    rw [if_pos hx] at er hM1
    subst X1 M1 K1
    have heq : (nI z : Int32) = r2 := (rfl).trans er.symm
    refine g_istore C dL_law_1212 (L' := [(7, .int (r2)), (6, .int (0)), (0, .ref b), (1, .ref (gad G 0)), (2, .ref (gad G 42)), (3, .ref (gad G 74)), (4, .ref (gad G 75)), (5, .int (nI (6 * c)))]) rfl (by rw [hL]; decide) ?_
    refine g_aload_n C dL_law_1214 4 rfl ?_
    refine g_callViW C dL_law_1215 (c_X11_thrown _ _ _ _ _ _ _ _ _) tw1394 tw1395 tw1396 tw16 tw1397 (rv_X11 C) rfl ⟨by decide +kernel, by decide +kernel, rfl⟩ ⟨rfl, rfl⟩ (by rw [hR]; exact ⟨Nat.le_of_ble_eq_true rfl, Nat.le_of_ble_eq_true rfl⟩) (Nat.le_of_ble_eq_true rfl) (by rw [hR]; exact ⟨by show k + 1 + 0 + 0 ≤ 604801; omega, by show n + 6 + 0 + 0 ≤ 7193636; omega⟩) (fun r3 X1 M1 K1 h3 => ?_)
    obtain ⟨er3, hX1, hM1, hK1⟩ := h3
    subst X1 M1 K1
    have e3 : r3 = 0 := er3.trans (by rfl)
    refine g_iload C dL_law_1218 1 rfl ?_
    refine g_icmp_eq C dL_law_1220 (tgt := 1225) (by decide) (fun q => ?_) (fun q => absurd e3 q)
    refine g_iload C dL_law_1225 1 rfl ?_
    refine g_if_ne C dL_law_1227 (tgt := 1242) (by decide) (fun q => absurd q (by decide)) (fun q => ?_)
    refine g_aload_n C dL_law_1230 5 rfl ?_
    refine g_iconst C dL_law_1231 (v := 0) (by decide) ?_
    refine al_74 C dL_law_1232 ?_
    refine g_topl (y := (nI z : Int32).toInt64) (kO_at _ _) ?_
    refine g_iload C dL_law_1233 0 rfl ?_
    refine g_i2l C dL_law_1235 ?_
    refine g_lcmpe C (by rw [heq]) dL_law_1236 ?_
    refine g_if_eq C dL_law_1237 (tgt := 1242) (by decide) (fun q => ?_) (fun q => absurd (by decide) q)
    refine g_goto C dL_law_1242 (tgt := 2415) (by decide) ?_
    exact g_sub [2, 3, 4, 5, 6, 7] rfl (kk _ _ _ _ _ _ _ _ _ _ (I.stay _ (o_rule R p1 p2 p3 p4 p5 h1 (th_of R.l6 hc).1 (th_of R.l6 hc).2) rfl rfl rfl) ⟨by show k + 1 + 0 + 0 ≤ 100 + 2 * (c + 1) + (K.2.1 4 + K.2.1 5); omega, by show n + 6 + 0 + 0 ≤ 2000 + 520 * (c + 1) + (K.2.1 6 + K.2.1 7); omega⟩)
  · have hx : ¬ xs_rule (M 117 0) p1 p2 p3 p4 p5 = 0 := fun q => hc (hcd.trans q)
    refine g_aload_n C dL_law_1139 1 rfl ?_
    refine g_aload_n C dL_law_1140 0 rfl ?_
    refine g_iload C dL_law_1141 5 rfl ?_
    refine g_iconst C dL_law_1143 (v := 1) (by decide) ?_
    refine g_iadd C dL_law_1144 ?_
    refine g_topi (y := nI (6 * c + 1)) (nI_add (6 * c) 1) ?_
    refine g_scr C hX hb hbA (j := 6 * c + 1) (by omega) (by omega) dL_law_1145 ?_
    refine g_i2c C dL_law_1146 ?_
    refine g_topi (y := p1) e1 ?_
    refine g_aload_n C dL_law_1147 0 rfl ?_
    refine g_iload C dL_law_1148 5 rfl ?_
    refine g_iconst C dL_law_1150 (v := 2) (by decide) ?_
    refine g_iadd C dL_law_1151 ?_
    refine g_topi (y := nI (6 * c + 2)) (nI_add (6 * c) 2) ?_
    refine g_scr C hX hb hbA (j := 6 * c + 2) (by omega) (by omega) dL_law_1152 ?_
    refine g_topi e2 ?_
    refine g_aload_n C dL_law_1153 0 rfl ?_
    refine g_iload C dL_law_1154 5 rfl ?_
    refine g_iconst C dL_law_1156 (v := 3) (by decide) ?_
    refine g_iadd C dL_law_1157 ?_
    refine g_topi (y := nI (6 * c + 3)) (nI_add (6 * c) 3) ?_
    refine g_scr C hX hb hbA (j := 6 * c + 3) (by omega) (by omega) dL_law_1158 ?_
    refine g_topi e3 ?_
    refine g_aload_n C dL_law_1159 0 rfl ?_
    refine g_iload C dL_law_1160 5 rfl ?_
    refine g_iconst C dL_law_1162 (v := 4) (by decide) ?_
    refine g_iadd C dL_law_1163 ?_
    refine g_topi (y := nI (6 * c + 4)) (nI_add (6 * c) 4) ?_
    refine g_scr C hX hb hbA (j := 6 * c + 4) (by omega) (by omega) dL_law_1164 ?_
    refine g_topi e4 ?_
    refine g_aload_n C dL_law_1165 0 rfl ?_
    refine g_iload C dL_law_1166 5 rfl ?_
    refine g_iconst C dL_law_1168 (v := 5) (by decide) ?_
    refine g_iadd C dL_law_1169 ?_
    refine g_topi (y := nI (6 * c + 5)) (nI_add (6 * c) 5) ?_
    refine g_scr C hX hb hbA (j := 6 * c + 5) (by omega) (by omega) dL_law_1170 ?_
    refine g_topi e5 ?_
    refine g_aload_n C dL_law_1171 3 rfl ?_
    refine g_callH C hN (c_L_addRule _ _ _ _ _ _ _ _ _ _ _ _ _ _ h1 _ R.x6 R.l6 hst) tw900 tw901 tw0 tw902 rfl ⟨by decide +kernel, by decide +kernel, rfl⟩ ⟨rfl, rfl⟩ (by rw [hR]; exact ⟨Nat.le_of_ble_eq_true rfl, Nat.le_of_ble_eq_true rfl⟩) (Nat.le_of_ble_eq_true rfl) dL_law_1172 (by rw [hR]; exact ⟨by show k + 1 ≤ 604801; omega, by show n + 6 ≤ 7193636; omega⟩) (fun r1 X1 M1 K1 h1_ => ?_)
    obtain ⟨-, hr1, hX1, hM1, hK1⟩ := h1_.resolve_left (fun q => hc q.1)
    subst X1 M1 K1
    refine g_istore C dL_law_1175 (L' := [(6, .int (r1)), (0, .ref b), (1, .ref (gad G 0)), (2, .ref (gad G 42)), (3, .ref (gad G 74)), (4, .ref (gad G 75)), (5, .int (nI (6 * c)))]) rfl (by rw [hL]; decide) ?_
    refine g_aload_n C dL_law_1177 3 rfl ?_
    refine g_aload_n C dL_law_1178 1 rfl ?_
    refine g_iload C dL_law_1179 6 rfl ?_
    refine g_iconst C dL_law_1181 (v := 1) (by decide) ?_
    refine g_iadd C dL_law_1182 ?_
    refine g_topi (y := nI (6 * c + 1)) (nI_add (6 * c) 1) ?_
    refine g_scr C hX hb hbA (j := 6 * c + 1) (by omega) (by omega) dL_law_1183 ?_
    refine g_i2c C dL_law_1184 ?_
    refine g_topi (y := p1) e1 ?_
    refine g_aload_n C dL_law_1185 1 rfl ?_
    refine g_iload C dL_law_1186 6 rfl ?_
    refine g_iconst C dL_law_1188 (v := 2) (by decide) ?_
    refine g_iadd C dL_law_1189 ?_
    refine g_topi (y := nI (6 * c + 2)) (nI_add (6 * c) 2) ?_
    refine g_scr C hX hb hbA (j := 6 * c + 2) (by omega) (by omega) dL_law_1190 ?_
    refine g_topi e2 ?_
    refine g_aload_n C dL_law_1191 1 rfl ?_
    refine g_iload C dL_law_1192 6 rfl ?_
    refine g_iconst C dL_law_1194 (v := 3) (by decide) ?_
    refine g_iadd C dL_law_1195 ?_
    refine g_topi (y := nI (6 * c + 3)) (nI_add (6 * c) 3) ?_
    refine g_scr C hX hb hbA (j := 6 * c + 3) (by omega) (by omega) dL_law_1196 ?_
    refine g_topi e3 ?_
    refine g_aload_n C dL_law_1197 1 rfl ?_
    refine g_iload C dL_law_1198 6 rfl ?_
    refine g_iconst C dL_law_1200 (v := 4) (by decide) ?_
    refine g_iadd C dL_law_1201 ?_
    refine g_topi (y := nI (6 * c + 4)) (nI_add (6 * c) 4) ?_
    refine g_scr C hX hb hbA (j := 6 * c + 4) (by omega) (by omega) dL_law_1202 ?_
    refine g_topi e4 ?_
    refine g_aload_n C dL_law_1203 1 rfl ?_
    refine g_iload C dL_law_1204 6 rfl ?_
    refine g_iconst C dL_law_1206 (v := 5) (by decide) ?_
    refine g_iadd C dL_law_1207 ?_
    refine g_topi (y := nI (6 * c + 5)) (nI_add (6 * c) 5) ?_
    refine g_scr C hX hb hbA (j := 6 * c + 5) (by omega) (by omega) dL_law_1208 ?_
    refine g_topi e5 ?_
    refine g_callViW C dL_law_1209 (c_X11_addRule _ _ _ _ _ _ _ _ _ _ _ _ _ _ h1 _ R.m6 R.l6) tw1509 tw1510 tw1511 tw16 tw1512 (rv_X11 C) rfl ⟨by decide +kernel, by decide +kernel, rfl⟩ ⟨rfl, rfl⟩ (by rw [hR]; exact ⟨Nat.le_of_ble_eq_true rfl, Nat.le_of_ble_eq_true rfl⟩) (Nat.le_of_ble_eq_true rfl) (by rw [hR]; exact ⟨by show k + 1 + 0 ≤ 604801; omega, by show n + 6 + 0 ≤ 7193636; omega⟩) (fun r2 X1 M1 K1 h2_ => ?_)
    obtain ⟨er, hX1, hM1, hK1⟩ := h2_
    rw [if_neg hx] at er hM1
    subst X1 M1 K1
    refine g_istore C dL_law_1212 (L' := [(7, .int (r2)), (6, .int (r1)), (0, .ref b), (1, .ref (gad G 0)), (2, .ref (gad G 42)), (3, .ref (gad G 74)), (4, .ref (gad G 75)), (5, .int (nI (6 * c)))]) rfl (by rw [hL]; decide) ?_
    refine g_aload_n C dL_law_1214 4 rfl ?_
    refine g_callViW C dL_law_1215 (c_X11_thrown _ _ _ _ _ _ _ _ _) tw1394 tw1395 tw1396 tw16 tw1397 (rv_X11 C) rfl ⟨by decide +kernel, by decide +kernel, rfl⟩ ⟨rfl, rfl⟩ (by rw [hR]; exact ⟨Nat.le_of_ble_eq_true rfl, Nat.le_of_ble_eq_true rfl⟩) (Nat.le_of_ble_eq_true rfl) (by rw [hR]; exact ⟨by show k + 1 + 0 + 0 ≤ 604801; omega, by show n + 6 + 0 + 0 ≤ 7193636; omega⟩) (fun r3 X1 M1 K1 h3 => ?_)
    obtain ⟨er3, hX1, hM1, hK1⟩ := h3
    subst X1 M1 K1
    have e3 : r3 = xs_rule (M 117 0) p1 p2 p3 p4 p5 := er3.trans (by rfl)
    refine g_iload C dL_law_1218 1 rfl ?_
    refine g_icmp_eq C dL_law_1220 (tgt := 1225) (by decide) (fun q => ?_) (fun q => absurd (e3.trans (hcd.symm.trans hr1.symm)) q)
    refine g_iload C dL_law_1225 1 rfl ?_
    refine g_if_ne C dL_law_1227 (tgt := 1242) (by decide) (fun q => ?_) (fun q => absurd q (fun u => hc (hr1.symm.trans u)))
    refine g_goto C dL_law_1242 (tgt := 2415) (by decide) ?_
    exact g_sub [2, 3, 4, 5, 6, 7] rfl (kk _ _ _ _ _ _ _ _ _ _ (I.no _) ⟨by show k + 1 + 0 + 0 ≤ 100 + 2 * (c + 1) + (K.2.1 4 + K.2.1 5); omega, by show n + 6 + 0 + 0 ≤ 2000 + 520 * (c + 1) + (K.2.1 6 + K.2.1 7); omega⟩)

set_option maxHeartbeats 1000000 in
set_option maxRecDepth 100000 in
theorem lc_mayWaive {G : MC} {b Ln c : Nat} {xs : Nat → Int32} {v z z5 z8 zs : Nat} {X M : XF} {K : KF} {k n : Nat} (E : LawG G b Ln xs) (hcL : 6 * c + 6 ≤ Ln) (I : Inv c v z z5 z8 zs X M K) (hm : rmO c K k n) (kk : LwS G b c) : GH G (WX G X M K) [(0, .ref b), (1, .ref (gad G 0)), (2, .ref (gad G 42)), (3, .ref (gad G 74)), (4, .ref (gad G 75)), (5, .int (nI (6 * c)))] k n 1245 [] := by
  obtain ⟨C, hst, hN, hX, hb, hbA, hLn, hR, hL⟩ := E
  have R := I.rel
  have hc5 : c < 512 := by omega
  have hnum := I.num (by omega)
  have hlen := I.len (by omega)
  obtain ⟨hm1, hm2⟩ := hm
  have hk2 := I.k2
  have hzk := I.zk
  have hsN := I.sN
  obtain ⟨p1, e1⟩ : ∃ p, xs (6 * c + 1) = p := ⟨_, rfl⟩
  obtain ⟨p2, e2⟩ : ∃ p, xs (6 * c + 2) = p := ⟨_, rfl⟩
  have hcd : xk_may (nI z) p1 p2 = xs_may (M 117 0) p1 p2 := by rw [R.m6]; exact cd_may R.l6 _ _
  by_cases hc : xk_may (nI z) p1 p2 = 0
  · have hx : xs_may (M 117 0) p1 p2 = 0 := hcd.symm.trans hc
    refine g_aload_n C dL_law_1245 1 rfl ?_
    refine g_aload_n C dL_law_1246 0 rfl ?_
    refine g_iload C dL_law_1247 5 rfl ?_
    refine g_iconst C dL_law_1249 (v := 1) (by decide) ?_
    refine g_iadd C dL_law_1250 ?_
    refine g_topi (y := nI (6 * c + 1)) (nI_add (6 * c) 1) ?_
    refine g_scr C hX hb hbA (j := 6 * c + 1) (by omega) (by omega) dL_law_1251 ?_
    refine g_topi e1 ?_
    refine g_aload_n C dL_law_1252 0 rfl ?_
    refine g_iload C dL_law_1253 5 rfl ?_
    refine g_iconst C dL_law_1255 (v := 2) (by decide) ?_
    refine g_iadd C dL_law_1256 ?_
    refine g_topi (y := nI (6 * c + 2)) (nI_add (6 * c) 2) ?_
    refine g_scr C hX hb hbA (j := 6 * c + 2) (by omega) (by omega) dL_law_1257 ?_
    refine g_topi e2 ?_
    refine g_aload_n C dL_law_1258 3 rfl ?_
    refine g_callH C hN (c_L_mayWaive _ _ _ _ _ _ _ _ _ _ _ _ R.x6 R.l6 hst) tw916 tw917 tw0 tw918 rfl ⟨by decide +kernel, by decide +kernel, rfl⟩ ⟨rfl, rfl⟩ (by rw [hR]; exact ⟨Nat.le_of_ble_eq_true rfl, Nat.le_of_ble_eq_true rfl⟩) (Nat.le_of_ble_eq_true rfl) dL_law_1259 (by rw [hR]; exact ⟨by show k + 1 ≤ 604801; omega, by show n + 6 ≤ 7193636; omega⟩) (fun r1 X1 M1 K1 h1_ => ?_)
    obtain ⟨-, rfl, hX1, hM1, hK1⟩ := h1_.resolve_right (fun q => q.1 hc)
    subst X1 M1 K1
    refine g_istore C dL_law_1262 (L' := [(6, .int (0)), (0, .ref b), (1, .ref (gad G 0)), (2, .ref (gad G 42)), (3, .ref (gad G 74)), (4, .ref (gad G 75)), (5, .int (nI (6 * c)))]) rfl (by rw [hL]; decide) ?_
    refine g_aload_n C dL_law_1264 3 rfl ?_
    refine g_aload_n C dL_law_1265 1 rfl ?_
    refine g_iload C dL_law_1266 6 rfl ?_
    refine g_iconst C dL_law_1268 (v := 1) (by decide) ?_
    refine g_iadd C dL_law_1269 ?_
    refine g_topi (y := nI (6 * c + 1)) (nI_add (6 * c) 1) ?_
    refine g_scr C hX hb hbA (j := 6 * c + 1) (by omega) (by omega) dL_law_1270 ?_
    refine g_topi e1 ?_
    refine g_aload_n C dL_law_1271 1 rfl ?_
    refine g_iload C dL_law_1272 6 rfl ?_
    refine g_iconst C dL_law_1274 (v := 2) (by decide) ?_
    refine g_iadd C dL_law_1275 ?_
    refine g_topi (y := nI (6 * c + 2)) (nI_add (6 * c) 2) ?_
    refine g_scr C hX hb hbA (j := 6 * c + 2) (by omega) (by omega) dL_law_1276 ?_
    refine g_topi e2 ?_
    refine g_callViW C dL_law_1277 (c_X11_mayWaive _ _ _ _ _ _ _ _ _ _ _ _ R.m6 R.l6) tw1574 tw1575 tw1576 tw16 tw1577 (rv_X11 C) rfl ⟨by decide +kernel, by decide +kernel, rfl⟩ ⟨rfl, rfl⟩ (by rw [hR]; exact ⟨Nat.le_of_ble_eq_true rfl, Nat.le_of_ble_eq_true rfl⟩) (Nat.le_of_ble_eq_true rfl) (by rw [hR]; exact ⟨by show k + 1 + 0 ≤ 604801; omega, by show n + 6 + 0 ≤ 7193636; omega⟩) (fun r2 X1 M1 K1 h2_ => ?_)
    obtain ⟨er, hX1, hM1, hK1⟩ := h2_
    rw [if_pos hx] at er hM1
    subst X1 M1 K1
    have heq : ((if rl_may (X 32 p1.toNatClampNeg) p2 = 0 then 1 else 0) : Int32) = r2 := ((o_may R p1 p2 hc).1).trans er.symm
    refine g_istore C dL_law_1280 (L' := [(7, .int (r2)), (6, .int (0)), (0, .ref b), (1, .ref (gad G 0)), (2, .ref (gad G 42)), (3, .ref (gad G 74)), (4, .ref (gad G 75)), (5, .int (nI (6 * c)))]) rfl (by rw [hL]; decide) ?_
    refine g_aload_n C dL_law_1282 4 rfl ?_
    refine g_callViW C dL_law_1283 (c_X11_thrown _ _ _ _ _ _ _ _ _) tw1394 tw1395 tw1396 tw16 tw1397 (rv_X11 C) rfl ⟨by decide +kernel, by decide +kernel, rfl⟩ ⟨rfl, rfl⟩ (by rw [hR]; exact ⟨Nat.le_of_ble_eq_true rfl, Nat.le_of_ble_eq_true rfl⟩) (Nat.le_of_ble_eq_true rfl) (by rw [hR]; exact ⟨by show k + 1 + 0 + 0 ≤ 604801; omega, by show n + 6 + 0 + 0 ≤ 7193636; omega⟩) (fun r3 X1 M1 K1 h3 => ?_)
    obtain ⟨er3, hX1, hM1, hK1⟩ := h3
    subst X1 M1 K1
    have e3 : r3 = 0 := er3.trans (by rfl)
    refine g_iload C dL_law_1286 1 rfl ?_
    refine g_icmp_eq C dL_law_1288 (tgt := 1293) (by decide) (fun q => ?_) (fun q => absurd e3 q)
    refine g_iload C dL_law_1293 1 rfl ?_
    refine g_if_ne C dL_law_1295 (tgt := 1317) (by decide) (fun q => absurd q (by decide)) (fun q => ?_)
    refine g_aload_n C dL_law_1298 5 rfl ?_
    refine g_iconst C dL_law_1299 (v := 0) (by decide) ?_
    refine al_74 C dL_law_1300 ?_
    refine g_topl (y := (if ((if rl_may (X 32 p1.toNatClampNeg) p2 = 0 then 1 else 0) : Int32) = 0 then 0 else 1)) (kO_at _ _) ?_
    refine g_iload C dL_law_1301 0 rfl ?_
    refine g_if_eq C dL_law_1303 (tgt := 1310) (by decide) (fun q => ?_) (fun q => ?_)
    · refine g_lconst C dL_law_1310 (v := 0) (by decide) ?_
      refine g_lcmpe C (by rw [heq, if_pos q]) dL_law_1311 ?_
      refine g_if_eq C dL_law_1312 (tgt := 1317) (by decide) (fun q => ?_) (fun q => absurd (by decide) q)
      refine g_goto C dL_law_1317 (tgt := 2415) (by decide) ?_
      exact g_sub [2, 3, 4, 5, 6, 7] rfl (kk _ _ _ _ _ _ _ _ _ _ (I.stay _ (o_may R p1 p2 hc).2 rfl rfl rfl) ⟨by show k + 1 + 0 + 0 ≤ 100 + 2 * (c + 1) + (K.2.1 4 + K.2.1 5); omega, by show n + 6 + 0 + 0 ≤ 2000 + 520 * (c + 1) + (K.2.1 6 + K.2.1 7); omega⟩)
    · refine g_lconst C dL_law_1306 (v := 1) (by decide) ?_
      refine g_goto C dL_law_1307 (tgt := 1311) (by decide) ?_
      refine g_lcmpe C (by rw [heq, if_neg q]) dL_law_1311 ?_
      refine g_if_eq C dL_law_1312 (tgt := 1317) (by decide) (fun q => ?_) (fun q => absurd (by decide) q)
      refine g_goto C dL_law_1317 (tgt := 2415) (by decide) ?_
      exact g_sub [2, 3, 4, 5, 6, 7] rfl (kk _ _ _ _ _ _ _ _ _ _ (I.stay _ (o_may R p1 p2 hc).2 rfl rfl rfl) ⟨by show k + 1 + 0 + 0 ≤ 100 + 2 * (c + 1) + (K.2.1 4 + K.2.1 5); omega, by show n + 6 + 0 + 0 ≤ 2000 + 520 * (c + 1) + (K.2.1 6 + K.2.1 7); omega⟩)
  · have hx : ¬ xs_may (M 117 0) p1 p2 = 0 := fun q => hc (hcd.trans q)
    refine g_aload_n C dL_law_1245 1 rfl ?_
    refine g_aload_n C dL_law_1246 0 rfl ?_
    refine g_iload C dL_law_1247 5 rfl ?_
    refine g_iconst C dL_law_1249 (v := 1) (by decide) ?_
    refine g_iadd C dL_law_1250 ?_
    refine g_topi (y := nI (6 * c + 1)) (nI_add (6 * c) 1) ?_
    refine g_scr C hX hb hbA (j := 6 * c + 1) (by omega) (by omega) dL_law_1251 ?_
    refine g_topi e1 ?_
    refine g_aload_n C dL_law_1252 0 rfl ?_
    refine g_iload C dL_law_1253 5 rfl ?_
    refine g_iconst C dL_law_1255 (v := 2) (by decide) ?_
    refine g_iadd C dL_law_1256 ?_
    refine g_topi (y := nI (6 * c + 2)) (nI_add (6 * c) 2) ?_
    refine g_scr C hX hb hbA (j := 6 * c + 2) (by omega) (by omega) dL_law_1257 ?_
    refine g_topi e2 ?_
    refine g_aload_n C dL_law_1258 3 rfl ?_
    refine g_callH C hN (c_L_mayWaive _ _ _ _ _ _ _ _ _ _ _ _ R.x6 R.l6 hst) tw916 tw917 tw0 tw918 rfl ⟨by decide +kernel, by decide +kernel, rfl⟩ ⟨rfl, rfl⟩ (by rw [hR]; exact ⟨Nat.le_of_ble_eq_true rfl, Nat.le_of_ble_eq_true rfl⟩) (Nat.le_of_ble_eq_true rfl) dL_law_1259 (by rw [hR]; exact ⟨by show k + 1 ≤ 604801; omega, by show n + 6 ≤ 7193636; omega⟩) (fun r1 X1 M1 K1 h1_ => ?_)
    obtain ⟨-, hr1, hX1, hM1, hK1⟩ := h1_.resolve_left (fun q => hc q.1)
    subst X1 M1 K1
    refine g_istore C dL_law_1262 (L' := [(6, .int (r1)), (0, .ref b), (1, .ref (gad G 0)), (2, .ref (gad G 42)), (3, .ref (gad G 74)), (4, .ref (gad G 75)), (5, .int (nI (6 * c)))]) rfl (by rw [hL]; decide) ?_
    refine g_aload_n C dL_law_1264 3 rfl ?_
    refine g_aload_n C dL_law_1265 1 rfl ?_
    refine g_iload C dL_law_1266 6 rfl ?_
    refine g_iconst C dL_law_1268 (v := 1) (by decide) ?_
    refine g_iadd C dL_law_1269 ?_
    refine g_topi (y := nI (6 * c + 1)) (nI_add (6 * c) 1) ?_
    refine g_scr C hX hb hbA (j := 6 * c + 1) (by omega) (by omega) dL_law_1270 ?_
    refine g_topi e1 ?_
    refine g_aload_n C dL_law_1271 1 rfl ?_
    refine g_iload C dL_law_1272 6 rfl ?_
    refine g_iconst C dL_law_1274 (v := 2) (by decide) ?_
    refine g_iadd C dL_law_1275 ?_
    refine g_topi (y := nI (6 * c + 2)) (nI_add (6 * c) 2) ?_
    refine g_scr C hX hb hbA (j := 6 * c + 2) (by omega) (by omega) dL_law_1276 ?_
    refine g_topi e2 ?_
    refine g_callViW C dL_law_1277 (c_X11_mayWaive _ _ _ _ _ _ _ _ _ _ _ _ R.m6 R.l6) tw1574 tw1575 tw1576 tw16 tw1577 (rv_X11 C) rfl ⟨by decide +kernel, by decide +kernel, rfl⟩ ⟨rfl, rfl⟩ (by rw [hR]; exact ⟨Nat.le_of_ble_eq_true rfl, Nat.le_of_ble_eq_true rfl⟩) (Nat.le_of_ble_eq_true rfl) (by rw [hR]; exact ⟨by show k + 1 + 0 ≤ 604801; omega, by show n + 6 + 0 ≤ 7193636; omega⟩) (fun r2 X1 M1 K1 h2_ => ?_)
    obtain ⟨er, hX1, hM1, hK1⟩ := h2_
    rw [if_neg hx] at er hM1
    subst X1 M1 K1
    refine g_istore C dL_law_1280 (L' := [(7, .int (r2)), (6, .int (r1)), (0, .ref b), (1, .ref (gad G 0)), (2, .ref (gad G 42)), (3, .ref (gad G 74)), (4, .ref (gad G 75)), (5, .int (nI (6 * c)))]) rfl (by rw [hL]; decide) ?_
    refine g_aload_n C dL_law_1282 4 rfl ?_
    refine g_callViW C dL_law_1283 (c_X11_thrown _ _ _ _ _ _ _ _ _) tw1394 tw1395 tw1396 tw16 tw1397 (rv_X11 C) rfl ⟨by decide +kernel, by decide +kernel, rfl⟩ ⟨rfl, rfl⟩ (by rw [hR]; exact ⟨Nat.le_of_ble_eq_true rfl, Nat.le_of_ble_eq_true rfl⟩) (Nat.le_of_ble_eq_true rfl) (by rw [hR]; exact ⟨by show k + 1 + 0 + 0 ≤ 604801; omega, by show n + 6 + 0 + 0 ≤ 7193636; omega⟩) (fun r3 X1 M1 K1 h3 => ?_)
    obtain ⟨er3, hX1, hM1, hK1⟩ := h3
    subst X1 M1 K1
    have e3 : r3 = xs_may (M 117 0) p1 p2 := er3.trans (by rfl)
    refine g_iload C dL_law_1286 1 rfl ?_
    refine g_icmp_eq C dL_law_1288 (tgt := 1293) (by decide) (fun q => ?_) (fun q => absurd (e3.trans (hcd.symm.trans hr1.symm)) q)
    refine g_iload C dL_law_1293 1 rfl ?_
    refine g_if_ne C dL_law_1295 (tgt := 1317) (by decide) (fun q => ?_) (fun q => absurd q (fun u => hc (hr1.symm.trans u)))
    refine g_goto C dL_law_1317 (tgt := 2415) (by decide) ?_
    exact g_sub [2, 3, 4, 5, 6, 7] rfl (kk _ _ _ _ _ _ _ _ _ _ (I.no _) ⟨by show k + 1 + 0 + 0 ≤ 100 + 2 * (c + 1) + (K.2.1 4 + K.2.1 5); omega, by show n + 6 + 0 + 0 ≤ 2000 + 520 * (c + 1) + (K.2.1 6 + K.2.1 7); omega⟩)

set_option maxHeartbeats 1000000 in
set_option maxRecDepth 100000 in
theorem lc_waive {G : MC} {b Ln c : Nat} {xs : Nat → Int32} {v z z5 z8 zs : Nat} {X M : XF} {K : KF} {k n : Nat} (E : LawG G b Ln xs) (hcL : 6 * c + 6 ≤ Ln) (I : Inv c v z z5 z8 zs X M K) (hm : rmO c K k n) (kk : LwS G b c) : GH G (WX G X M K) [(0, .ref b), (1, .ref (gad G 0)), (2, .ref (gad G 42)), (3, .ref (gad G 74)), (4, .ref (gad G 75)), (5, .int (nI (6 * c)))] k n 1320 [] := by
  obtain ⟨C, hst, hN, hX, hb, hbA, hLn, hR, hL⟩ := E
  have R := I.rel
  have hc5 : c < 512 := by omega
  have hnum := I.num (by omega)
  have hlen := I.len (by omega)
  obtain ⟨hm1, hm2⟩ := hm
  have hk2 := I.k2
  have hzk := I.zk
  have hsN := I.sN
  obtain ⟨p1, e1⟩ : ∃ p, xs (6 * c + 1) = p := ⟨_, rfl⟩
  obtain ⟨p2, e2⟩ : ∃ p, xs (6 * c + 2) = p := ⟨_, rfl⟩
  obtain ⟨p3, e3⟩ : ∃ p, xs (6 * c + 3) = p := ⟨_, rfl⟩
  have hcd : xk_waive (X 32) (nI z) p1 p2 p3 = xs_waive (M 71) (M 117 0) p1 p2 p3 := by rw [R.m6]; exact cd_waive R _ _ _
  by_cases hc : xk_waive (X 32) (nI z) p1 p2 p3 = 0
  · have hx : xs_waive (M 71) (M 117 0) p1 p2 p3 = 0 := hcd.symm.trans hc
    refine g_aload_n C dL_law_1320 1 rfl ?_
    refine g_aload_n C dL_law_1321 0 rfl ?_
    refine g_iload C dL_law_1322 5 rfl ?_
    refine g_iconst C dL_law_1324 (v := 1) (by decide) ?_
    refine g_iadd C dL_law_1325 ?_
    refine g_topi (y := nI (6 * c + 1)) (nI_add (6 * c) 1) ?_
    refine g_scr C hX hb hbA (j := 6 * c + 1) (by omega) (by omega) dL_law_1326 ?_
    refine g_topi e1 ?_
    refine g_aload_n C dL_law_1327 0 rfl ?_
    refine g_iload C dL_law_1328 5 rfl ?_
    refine g_iconst C dL_law_1330 (v := 2) (by decide) ?_
    refine g_iadd C dL_law_1331 ?_
    refine g_topi (y := nI (6 * c + 2)) (nI_add (6 * c) 2) ?_
    refine g_scr C hX hb hbA (j := 6 * c + 2) (by omega) (by omega) dL_law_1332 ?_
    refine g_topi e2 ?_
    refine g_aload_n C dL_law_1333 0 rfl ?_
    refine g_iload C dL_law_1334 5 rfl ?_
    refine g_iconst C dL_law_1336 (v := 3) (by decide) ?_
    refine g_iadd C dL_law_1337 ?_
    refine g_topi (y := nI (6 * c + 3)) (nI_add (6 * c) 3) ?_
    refine g_scr C hX hb hbA (j := 6 * c + 3) (by omega) (by omega) dL_law_1338 ?_
    refine g_topi e3 ?_
    refine g_aload_n C dL_law_1339 3 rfl ?_
    refine g_callH C hN (c_L_waive _ _ _ _ _ _ _ _ _ _ _ _ _ R.x6 R.l6 hst) tw929 tw930 tw0 tw931 rfl ⟨by decide +kernel, by decide +kernel, rfl⟩ ⟨rfl, rfl⟩ (by rw [hR]; exact ⟨Nat.le_of_ble_eq_true rfl, Nat.le_of_ble_eq_true rfl⟩) (Nat.le_of_ble_eq_true rfl) dL_law_1340 (by rw [hR]; exact ⟨by show k + 1 ≤ 604801; omega, by show n + 6 ≤ 7193636; omega⟩) (fun r1 X1 M1 K1 h1_ => ?_)
    obtain ⟨-, rfl, hX1, hM1, hK1⟩ := h1_.resolve_right (fun q => q.1 hc)
    subst X1 M1 K1
    refine g_istore C dL_law_1343 (L' := [(6, .int (0)), (0, .ref b), (1, .ref (gad G 0)), (2, .ref (gad G 42)), (3, .ref (gad G 74)), (4, .ref (gad G 75)), (5, .int (nI (6 * c)))]) rfl (by rw [hL]; decide) ?_
    refine g_aload_n C dL_law_1345 3 rfl ?_
    refine g_aload_n C dL_law_1346 1 rfl ?_
    refine g_iload C dL_law_1347 6 rfl ?_
    refine g_iconst C dL_law_1349 (v := 1) (by decide) ?_
    refine g_iadd C dL_law_1350 ?_
    refine g_topi (y := nI (6 * c + 1)) (nI_add (6 * c) 1) ?_
    refine g_scr C hX hb hbA (j := 6 * c + 1) (by omega) (by omega) dL_law_1351 ?_
    refine g_topi e1 ?_
    refine g_aload_n C dL_law_1352 1 rfl ?_
    refine g_iload C dL_law_1353 6 rfl ?_
    refine g_iconst C dL_law_1355 (v := 2) (by decide) ?_
    refine g_iadd C dL_law_1356 ?_
    refine g_topi (y := nI (6 * c + 2)) (nI_add (6 * c) 2) ?_
    refine g_scr C hX hb hbA (j := 6 * c + 2) (by omega) (by omega) dL_law_1357 ?_
    refine g_topi e2 ?_
    refine g_aload_n C dL_law_1358 1 rfl ?_
    refine g_iload C dL_law_1359 6 rfl ?_
    refine g_iconst C dL_law_1361 (v := 3) (by decide) ?_
    refine g_iadd C dL_law_1362 ?_
    refine g_topi (y := nI (6 * c + 3)) (nI_add (6 * c) 3) ?_
    refine g_scr C hX hb hbA (j := 6 * c + 3) (by omega) (by omega) dL_law_1363 ?_
    refine g_topi e3 ?_
    refine g_callViW C dL_law_1364 (c_X11_waive _ _ _ _ _ _ _ _ _ _ _ _ _ R.m6 R.l6) tw1585 tw1586 tw1587 tw16 tw1588 (rv_X11 C) rfl ⟨by decide +kernel, by decide +kernel, rfl⟩ ⟨rfl, rfl⟩ (by rw [hR]; exact ⟨Nat.le_of_ble_eq_true rfl, Nat.le_of_ble_eq_true rfl⟩) (Nat.le_of_ble_eq_true rfl) (by rw [hR]; exact ⟨by show k + 1 + 0 ≤ 604801; omega, by show n + 6 + 0 ≤ 7193636; omega⟩) (fun r2 X1 M1 K1 h2_ => ?_)
    obtain ⟨er, hX1, hM1, hK1⟩ := h2_
    rw [if_pos hx] at er hM1
    subst X1 M1 K1
    have heq : (cl_iw X p1.toNatClampNeg : Int32) = r2 := ((o_waive R p1 p2 p3 hc).1).trans er.symm
    refine g_istore C dL_law_1367 (L' := [(7, .int (r2)), (6, .int (0)), (0, .ref b), (1, .ref (gad G 0)), (2, .ref (gad G 42)), (3, .ref (gad G 74)), (4, .ref (gad G 75)), (5, .int (nI (6 * c)))]) rfl (by rw [hL]; decide) ?_
    refine g_aload_n C dL_law_1369 4 rfl ?_
    refine g_callViW C dL_law_1370 (c_X11_thrown _ _ _ _ _ _ _ _ _) tw1394 tw1395 tw1396 tw16 tw1397 (rv_X11 C) rfl ⟨by decide +kernel, by decide +kernel, rfl⟩ ⟨rfl, rfl⟩ (by rw [hR]; exact ⟨Nat.le_of_ble_eq_true rfl, Nat.le_of_ble_eq_true rfl⟩) (Nat.le_of_ble_eq_true rfl) (by rw [hR]; exact ⟨by show k + 1 + 0 + 0 ≤ 604801; omega, by show n + 6 + 0 + 0 ≤ 7193636; omega⟩) (fun r3 X1 M1 K1 h3 => ?_)
    obtain ⟨er3, hX1, hM1, hK1⟩ := h3
    subst X1 M1 K1
    have e3 : r3 = 0 := er3.trans (by rfl)
    refine g_iload C dL_law_1373 1 rfl ?_
    refine g_icmp_eq C dL_law_1375 (tgt := 1380) (by decide) (fun q => ?_) (fun q => absurd e3 q)
    refine g_iload C dL_law_1380 1 rfl ?_
    refine g_if_ne C dL_law_1382 (tgt := 1404) (by decide) (fun q => absurd q (by decide)) (fun q => ?_)
    refine g_aload_n C dL_law_1385 5 rfl ?_
    refine g_iconst C dL_law_1386 (v := 0) (by decide) ?_
    refine al_74 C dL_law_1387 ?_
    refine g_topl (y := (if (cl_iw X p1.toNatClampNeg : Int32) = 0 then 0 else 1)) (kO_at _ _) ?_
    refine g_iload C dL_law_1388 0 rfl ?_
    refine g_if_eq C dL_law_1390 (tgt := 1397) (by decide) (fun q => ?_) (fun q => ?_)
    · refine g_lconst C dL_law_1397 (v := 0) (by decide) ?_
      refine g_lcmpe C (by rw [heq, if_pos q]) dL_law_1398 ?_
      refine g_if_eq C dL_law_1399 (tgt := 1404) (by decide) (fun q => ?_) (fun q => absurd (by decide) q)
      refine g_goto C dL_law_1404 (tgt := 2415) (by decide) ?_
      exact g_sub [2, 3, 4, 5, 6, 7] rfl (kk _ _ _ _ _ _ _ _ _ _ (I.stay _ (o_waive R p1 p2 p3 hc).2 rfl rfl rfl) ⟨by show k + 1 + 0 + 0 ≤ 100 + 2 * (c + 1) + (K.2.1 4 + K.2.1 5); omega, by show n + 6 + 0 + 0 ≤ 2000 + 520 * (c + 1) + (K.2.1 6 + K.2.1 7); omega⟩)
    · refine g_lconst C dL_law_1393 (v := 1) (by decide) ?_
      refine g_goto C dL_law_1394 (tgt := 1398) (by decide) ?_
      refine g_lcmpe C (by rw [heq, if_neg q]) dL_law_1398 ?_
      refine g_if_eq C dL_law_1399 (tgt := 1404) (by decide) (fun q => ?_) (fun q => absurd (by decide) q)
      refine g_goto C dL_law_1404 (tgt := 2415) (by decide) ?_
      exact g_sub [2, 3, 4, 5, 6, 7] rfl (kk _ _ _ _ _ _ _ _ _ _ (I.stay _ (o_waive R p1 p2 p3 hc).2 rfl rfl rfl) ⟨by show k + 1 + 0 + 0 ≤ 100 + 2 * (c + 1) + (K.2.1 4 + K.2.1 5); omega, by show n + 6 + 0 + 0 ≤ 2000 + 520 * (c + 1) + (K.2.1 6 + K.2.1 7); omega⟩)
  · have hx : ¬ xs_waive (M 71) (M 117 0) p1 p2 p3 = 0 := fun q => hc (hcd.trans q)
    refine g_aload_n C dL_law_1320 1 rfl ?_
    refine g_aload_n C dL_law_1321 0 rfl ?_
    refine g_iload C dL_law_1322 5 rfl ?_
    refine g_iconst C dL_law_1324 (v := 1) (by decide) ?_
    refine g_iadd C dL_law_1325 ?_
    refine g_topi (y := nI (6 * c + 1)) (nI_add (6 * c) 1) ?_
    refine g_scr C hX hb hbA (j := 6 * c + 1) (by omega) (by omega) dL_law_1326 ?_
    refine g_topi e1 ?_
    refine g_aload_n C dL_law_1327 0 rfl ?_
    refine g_iload C dL_law_1328 5 rfl ?_
    refine g_iconst C dL_law_1330 (v := 2) (by decide) ?_
    refine g_iadd C dL_law_1331 ?_
    refine g_topi (y := nI (6 * c + 2)) (nI_add (6 * c) 2) ?_
    refine g_scr C hX hb hbA (j := 6 * c + 2) (by omega) (by omega) dL_law_1332 ?_
    refine g_topi e2 ?_
    refine g_aload_n C dL_law_1333 0 rfl ?_
    refine g_iload C dL_law_1334 5 rfl ?_
    refine g_iconst C dL_law_1336 (v := 3) (by decide) ?_
    refine g_iadd C dL_law_1337 ?_
    refine g_topi (y := nI (6 * c + 3)) (nI_add (6 * c) 3) ?_
    refine g_scr C hX hb hbA (j := 6 * c + 3) (by omega) (by omega) dL_law_1338 ?_
    refine g_topi e3 ?_
    refine g_aload_n C dL_law_1339 3 rfl ?_
    refine g_callH C hN (c_L_waive _ _ _ _ _ _ _ _ _ _ _ _ _ R.x6 R.l6 hst) tw929 tw930 tw0 tw931 rfl ⟨by decide +kernel, by decide +kernel, rfl⟩ ⟨rfl, rfl⟩ (by rw [hR]; exact ⟨Nat.le_of_ble_eq_true rfl, Nat.le_of_ble_eq_true rfl⟩) (Nat.le_of_ble_eq_true rfl) dL_law_1340 (by rw [hR]; exact ⟨by show k + 1 ≤ 604801; omega, by show n + 6 ≤ 7193636; omega⟩) (fun r1 X1 M1 K1 h1_ => ?_)
    obtain ⟨-, hr1, hX1, hM1, hK1⟩ := h1_.resolve_left (fun q => hc q.1)
    subst X1 M1 K1
    refine g_istore C dL_law_1343 (L' := [(6, .int (r1)), (0, .ref b), (1, .ref (gad G 0)), (2, .ref (gad G 42)), (3, .ref (gad G 74)), (4, .ref (gad G 75)), (5, .int (nI (6 * c)))]) rfl (by rw [hL]; decide) ?_
    refine g_aload_n C dL_law_1345 3 rfl ?_
    refine g_aload_n C dL_law_1346 1 rfl ?_
    refine g_iload C dL_law_1347 6 rfl ?_
    refine g_iconst C dL_law_1349 (v := 1) (by decide) ?_
    refine g_iadd C dL_law_1350 ?_
    refine g_topi (y := nI (6 * c + 1)) (nI_add (6 * c) 1) ?_
    refine g_scr C hX hb hbA (j := 6 * c + 1) (by omega) (by omega) dL_law_1351 ?_
    refine g_topi e1 ?_
    refine g_aload_n C dL_law_1352 1 rfl ?_
    refine g_iload C dL_law_1353 6 rfl ?_
    refine g_iconst C dL_law_1355 (v := 2) (by decide) ?_
    refine g_iadd C dL_law_1356 ?_
    refine g_topi (y := nI (6 * c + 2)) (nI_add (6 * c) 2) ?_
    refine g_scr C hX hb hbA (j := 6 * c + 2) (by omega) (by omega) dL_law_1357 ?_
    refine g_topi e2 ?_
    refine g_aload_n C dL_law_1358 1 rfl ?_
    refine g_iload C dL_law_1359 6 rfl ?_
    refine g_iconst C dL_law_1361 (v := 3) (by decide) ?_
    refine g_iadd C dL_law_1362 ?_
    refine g_topi (y := nI (6 * c + 3)) (nI_add (6 * c) 3) ?_
    refine g_scr C hX hb hbA (j := 6 * c + 3) (by omega) (by omega) dL_law_1363 ?_
    refine g_topi e3 ?_
    refine g_callViW C dL_law_1364 (c_X11_waive _ _ _ _ _ _ _ _ _ _ _ _ _ R.m6 R.l6) tw1585 tw1586 tw1587 tw16 tw1588 (rv_X11 C) rfl ⟨by decide +kernel, by decide +kernel, rfl⟩ ⟨rfl, rfl⟩ (by rw [hR]; exact ⟨Nat.le_of_ble_eq_true rfl, Nat.le_of_ble_eq_true rfl⟩) (Nat.le_of_ble_eq_true rfl) (by rw [hR]; exact ⟨by show k + 1 + 0 ≤ 604801; omega, by show n + 6 + 0 ≤ 7193636; omega⟩) (fun r2 X1 M1 K1 h2_ => ?_)
    obtain ⟨er, hX1, hM1, hK1⟩ := h2_
    rw [if_neg hx] at er hM1
    subst X1 M1 K1
    refine g_istore C dL_law_1367 (L' := [(7, .int (r2)), (6, .int (r1)), (0, .ref b), (1, .ref (gad G 0)), (2, .ref (gad G 42)), (3, .ref (gad G 74)), (4, .ref (gad G 75)), (5, .int (nI (6 * c)))]) rfl (by rw [hL]; decide) ?_
    refine g_aload_n C dL_law_1369 4 rfl ?_
    refine g_callViW C dL_law_1370 (c_X11_thrown _ _ _ _ _ _ _ _ _) tw1394 tw1395 tw1396 tw16 tw1397 (rv_X11 C) rfl ⟨by decide +kernel, by decide +kernel, rfl⟩ ⟨rfl, rfl⟩ (by rw [hR]; exact ⟨Nat.le_of_ble_eq_true rfl, Nat.le_of_ble_eq_true rfl⟩) (Nat.le_of_ble_eq_true rfl) (by rw [hR]; exact ⟨by show k + 1 + 0 + 0 ≤ 604801; omega, by show n + 6 + 0 + 0 ≤ 7193636; omega⟩) (fun r3 X1 M1 K1 h3 => ?_)
    obtain ⟨er3, hX1, hM1, hK1⟩ := h3
    subst X1 M1 K1
    have e3 : r3 = xs_waive (M 71) (M 117 0) p1 p2 p3 := er3.trans (by rfl)
    refine g_iload C dL_law_1373 1 rfl ?_
    refine g_icmp_eq C dL_law_1375 (tgt := 1380) (by decide) (fun q => ?_) (fun q => absurd (e3.trans (hcd.symm.trans hr1.symm)) q)
    refine g_iload C dL_law_1380 1 rfl ?_
    refine g_if_ne C dL_law_1382 (tgt := 1404) (by decide) (fun q => ?_) (fun q => absurd q (fun u => hc (hr1.symm.trans u)))
    refine g_goto C dL_law_1404 (tgt := 2415) (by decide) ?_
    exact g_sub [2, 3, 4, 5, 6, 7] rfl (kk _ _ _ _ _ _ _ _ _ _ (I.no _) ⟨by show k + 1 + 0 + 0 ≤ 100 + 2 * (c + 1) + (K.2.1 4 + K.2.1 5); omega, by show n + 6 + 0 + 0 ≤ 2000 + 520 * (c + 1) + (K.2.1 6 + K.2.1 7); omega⟩)

set_option maxHeartbeats 1000000 in
set_option maxRecDepth 100000 in
theorem lc_go {G : MC} {b Ln c : Nat} {xs : Nat → Int32} {v z z5 z8 zs : Nat} {X M : XF} {K : KF} {k n : Nat} (E : LawG G b Ln xs) (hcL : 6 * c + 6 ≤ Ln) (I : Inv c v z z5 z8 zs X M K) (hm : rmO c K k n) (kk : LwS G b c) : GH G (WX G X M K) [(0, .ref b), (1, .ref (gad G 0)), (2, .ref (gad G 42)), (3, .ref (gad G 74)), (4, .ref (gad G 75)), (5, .int (nI (6 * c)))] k n 1407 [] := by
  obtain ⟨C, hst, hN, hX, hb, hbA, hLn, hR, hL⟩ := E
  have R := I.rel
  have hc5 : c < 512 := by omega
  have hnum := I.num (by omega)
  have hlen := I.len (by omega)
  obtain ⟨hm1, hm2⟩ := hm
  have hk2 := I.k2
  have hzk := I.zk
  have hsN := I.sN
  obtain ⟨p1, e1⟩ : ∃ p, xs (6 * c + 1) = p := ⟨_, rfl⟩
  obtain ⟨p2, e2⟩ : ∃ p, bz (xs (6 * c + 2)) = p := ⟨_, rfl⟩
  have h2 : isBo p2 := by rw [← e2]; exact bz_bo _
  have hcd : xk_b p1 6 = xs_b (md_nc p1) := by exact cd_b6 _
  by_cases hc : xk_b p1 6 = 0
  · have hx : xs_b (md_nc p1) = 0 := hcd.symm.trans hc
    refine g_aload_n C dL_law_1407 1 rfl ?_
    refine g_aload_n C dL_law_1408 0 rfl ?_
    refine g_iload C dL_law_1409 5 rfl ?_
    refine g_iconst C dL_law_1411 (v := 1) (by decide) ?_
    refine g_iadd C dL_law_1412 ?_
    refine g_topi (y := nI (6 * c + 1)) (nI_add (6 * c) 1) ?_
    refine g_scr C hX hb hbA (j := 6 * c + 1) (by omega) (by omega) dL_law_1413 ?_
    refine g_topi e1 ?_
    refine g_aload_n C dL_law_1414 0 rfl ?_
    refine g_iload C dL_law_1415 5 rfl ?_
    refine g_iconst C dL_law_1417 (v := 2) (by decide) ?_
    refine g_iadd C dL_law_1418 ?_
    refine g_topi (y := nI (6 * c + 2)) (nI_add (6 * c) 2) ?_
    refine g_scr C hX hb hbA (j := 6 * c + 2) (by omega) (by omega) dL_law_1419 ?_
    have jn1 : GH G (WX G X M K) [(0, .ref b), (1, .ref (gad G 0)), (2, .ref (gad G 42)), (3, .ref (gad G 74)), (4, .ref (gad G 75)), (5, .int (nI (6 * c)))] k n 1428 [.int (p2), .int (p1), .ref (gad G 0)] := by
      refine g_aload_n C dL_law_1428 3 rfl ?_
      refine g_callH C hN (c_L_go _ _ _ _ _ _ _ _ _ _ _ h2 R.bo41 hst) tw946 tw947 tw0 tw948 rfl ⟨by decide +kernel, by decide +kernel, rfl⟩ ⟨rfl, rfl⟩ (by rw [hR]; exact ⟨Nat.le_of_ble_eq_true rfl, Nat.le_of_ble_eq_true rfl⟩) (Nat.le_of_ble_eq_true rfl) dL_law_1429 (by rw [hR]; exact ⟨by show k + 1 ≤ 604801; omega, by show n + 6 ≤ 7193636; omega⟩) (fun r1 X1 M1 K1 h1_ => ?_)
      obtain ⟨-, rfl, hX1, hM1, hK1⟩ := h1_.resolve_right (fun q => q.1 hc)
      subst X1 M1 K1
      refine g_istore C dL_law_1432 (L' := [(6, .int (0)), (0, .ref b), (1, .ref (gad G 0)), (2, .ref (gad G 42)), (3, .ref (gad G 74)), (4, .ref (gad G 75)), (5, .int (nI (6 * c)))]) rfl (by rw [hL]; decide) ?_
      refine g_aload_n C dL_law_1434 3 rfl ?_
      refine g_aload_n C dL_law_1435 1 rfl ?_
      refine g_iload C dL_law_1436 6 rfl ?_
      refine g_iconst C dL_law_1438 (v := 1) (by decide) ?_
      refine g_iadd C dL_law_1439 ?_
      refine g_topi (y := nI (6 * c + 1)) (nI_add (6 * c) 1) ?_
      refine g_scr C hX hb hbA (j := 6 * c + 1) (by omega) (by omega) dL_law_1440 ?_
      refine g_topi e1 ?_
      refine g_aload_n C dL_law_1441 1 rfl ?_
      refine g_iload C dL_law_1442 6 rfl ?_
      refine g_iconst C dL_law_1444 (v := 2) (by decide) ?_
      refine g_iadd C dL_law_1445 ?_
      refine g_topi (y := nI (6 * c + 2)) (nI_add (6 * c) 2) ?_
      refine g_scr C hX hb hbA (j := 6 * c + 2) (by omega) (by omega) dL_law_1446 ?_
      have jn2 : GH G (WX G (sa X 41 (upd (X 41) p1.toNatClampNeg p2)) M (kO K (if (X 41 p1.toNatClampNeg : Int32) = 0 then 0 else 1))) [(6, .int (0)), (0, .ref b), (1, .ref (gad G 0)), (2, .ref (gad G 42)), (3, .ref (gad G 74)), (4, .ref (gad G 75)), (5, .int (nI (6 * c)))] (k + 1) (n + 6) 1455 [.int (p2), .int (p1), .ref (gad G 42)] := by
        refine g_callViW C dL_law_1455 (c_X11_go _ _ _ _ _ _ _ _ _ _ _ h2 R.bo61) tw1593 tw1594 tw1595 tw16 tw1596 (rv_X11 C) rfl ⟨by decide +kernel, by decide +kernel, rfl⟩ ⟨rfl, rfl⟩ (by rw [hR]; exact ⟨Nat.le_of_ble_eq_true rfl, Nat.le_of_ble_eq_true rfl⟩) (Nat.le_of_ble_eq_true rfl) (by rw [hR]; exact ⟨by show k + 1 + 0 ≤ 604801; omega, by show n + 6 + 0 ≤ 7193636; omega⟩) (fun r2 X1 M1 K1 h2_ => ?_)
        obtain ⟨er, hX1, hM1, hK1⟩ := h2_
        rw [if_pos hx] at er hM1
        subst X1 M1 K1
        have heq : (X 41 p1.toNatClampNeg : Int32) = r2 := ((o_go R p1 p2 h2).1).trans er.symm
        refine g_istore C dL_law_1458 (L' := [(7, .int (r2)), (6, .int (0)), (0, .ref b), (1, .ref (gad G 0)), (2, .ref (gad G 42)), (3, .ref (gad G 74)), (4, .ref (gad G 75)), (5, .int (nI (6 * c)))]) rfl (by rw [hL]; decide) ?_
        refine g_aload_n C dL_law_1460 4 rfl ?_
        refine g_callViW C dL_law_1461 (c_X11_thrown _ _ _ _ _ _ _ _ _) tw1394 tw1395 tw1396 tw16 tw1397 (rv_X11 C) rfl ⟨by decide +kernel, by decide +kernel, rfl⟩ ⟨rfl, rfl⟩ (by rw [hR]; exact ⟨Nat.le_of_ble_eq_true rfl, Nat.le_of_ble_eq_true rfl⟩) (Nat.le_of_ble_eq_true rfl) (by rw [hR]; exact ⟨by show k + 1 + 0 + 0 ≤ 604801; omega, by show n + 6 + 0 + 0 ≤ 7193636; omega⟩) (fun r3 X1 M1 K1 h3 => ?_)
        obtain ⟨er3, hX1, hM1, hK1⟩ := h3
        subst X1 M1 K1
        have e3 : r3 = 0 := er3.trans (by rfl)
        refine g_iload C dL_law_1464 1 rfl ?_
        refine g_icmp_eq C dL_law_1466 (tgt := 1471) (by decide) (fun q => ?_) (fun q => absurd e3 q)
        refine g_iload C dL_law_1471 1 rfl ?_
        refine g_if_ne C dL_law_1473 (tgt := 1495) (by decide) (fun q => absurd q (by decide)) (fun q => ?_)
        refine g_aload_n C dL_law_1476 5 rfl ?_
        refine g_iconst C dL_law_1477 (v := 0) (by decide) ?_
        refine al_74 C dL_law_1478 ?_
        refine g_topl (y := (if (X 41 p1.toNatClampNeg : Int32) = 0 then 0 else 1)) (kO_at _ _) ?_
        refine g_iload C dL_law_1479 0 rfl ?_
        refine g_if_eq C dL_law_1481 (tgt := 1488) (by decide) (fun q => ?_) (fun q => ?_)
        · refine g_lconst C dL_law_1488 (v := 0) (by decide) ?_
          refine g_lcmpe C (by rw [heq, if_pos q]) dL_law_1489 ?_
          refine g_if_eq C dL_law_1490 (tgt := 1495) (by decide) (fun q => ?_) (fun q => absurd (by decide) q)
          refine g_goto C dL_law_1495 (tgt := 2415) (by decide) ?_
          exact g_sub [2, 3, 4, 5, 6, 7] rfl (kk _ _ _ _ _ _ _ _ _ _ (I.stay _ (o_go R p1 p2 h2).2 rfl rfl rfl) ⟨by show k + 1 + 0 + 0 ≤ 100 + 2 * (c + 1) + (K.2.1 4 + K.2.1 5); omega, by show n + 6 + 0 + 0 ≤ 2000 + 520 * (c + 1) + (K.2.1 6 + K.2.1 7); omega⟩)
        · refine g_lconst C dL_law_1484 (v := 1) (by decide) ?_
          refine g_goto C dL_law_1485 (tgt := 1489) (by decide) ?_
          refine g_lcmpe C (by rw [heq, if_neg q]) dL_law_1489 ?_
          refine g_if_eq C dL_law_1490 (tgt := 1495) (by decide) (fun q => ?_) (fun q => absurd (by decide) q)
          refine g_goto C dL_law_1495 (tgt := 2415) (by decide) ?_
          exact g_sub [2, 3, 4, 5, 6, 7] rfl (kk _ _ _ _ _ _ _ _ _ _ (I.stay _ (o_go R p1 p2 h2).2 rfl rfl rfl) ⟨by show k + 1 + 0 + 0 ≤ 100 + 2 * (c + 1) + (K.2.1 4 + K.2.1 5); omega, by show n + 6 + 0 + 0 ≤ 2000 + 520 * (c + 1) + (K.2.1 6 + K.2.1 7); omega⟩)
      refine g_if_eq C dL_law_1447 (tgt := 1454) (by decide) (fun q => ?_) (fun q => ?_)
      · refine g_iconst C dL_law_1454 (v := 0) (by decide) ?_
        exact g_topi (show (0 : Int32) = p2 by rw [← e2]; exact (if_pos q).symm) jn2
      · refine g_iconst C dL_law_1450 (v := 1) (by decide) ?_
        refine g_goto C dL_law_1451 (tgt := 1455) (by decide) ?_
        exact g_topi (show (1 : Int32) = p2 by rw [← e2]; exact (if_neg q).symm) jn2
    refine g_if_eq C dL_law_1420 (tgt := 1427) (by decide) (fun q => ?_) (fun q => ?_)
    · refine g_iconst C dL_law_1427 (v := 0) (by decide) ?_
      exact g_topi (show (0 : Int32) = p2 by rw [← e2]; exact (if_pos q).symm) jn1
    · refine g_iconst C dL_law_1423 (v := 1) (by decide) ?_
      refine g_goto C dL_law_1424 (tgt := 1428) (by decide) ?_
      exact g_topi (show (1 : Int32) = p2 by rw [← e2]; exact (if_neg q).symm) jn1
  · have hx : ¬ xs_b (md_nc p1) = 0 := fun q => hc (hcd.trans q)
    refine g_aload_n C dL_law_1407 1 rfl ?_
    refine g_aload_n C dL_law_1408 0 rfl ?_
    refine g_iload C dL_law_1409 5 rfl ?_
    refine g_iconst C dL_law_1411 (v := 1) (by decide) ?_
    refine g_iadd C dL_law_1412 ?_
    refine g_topi (y := nI (6 * c + 1)) (nI_add (6 * c) 1) ?_
    refine g_scr C hX hb hbA (j := 6 * c + 1) (by omega) (by omega) dL_law_1413 ?_
    refine g_topi e1 ?_
    refine g_aload_n C dL_law_1414 0 rfl ?_
    refine g_iload C dL_law_1415 5 rfl ?_
    refine g_iconst C dL_law_1417 (v := 2) (by decide) ?_
    refine g_iadd C dL_law_1418 ?_
    refine g_topi (y := nI (6 * c + 2)) (nI_add (6 * c) 2) ?_
    refine g_scr C hX hb hbA (j := 6 * c + 2) (by omega) (by omega) dL_law_1419 ?_
    have jn3 : GH G (WX G X M K) [(0, .ref b), (1, .ref (gad G 0)), (2, .ref (gad G 42)), (3, .ref (gad G 74)), (4, .ref (gad G 75)), (5, .int (nI (6 * c)))] k n 1428 [.int (p2), .int (p1), .ref (gad G 0)] := by
      refine g_aload_n C dL_law_1428 3 rfl ?_
      refine g_callH C hN (c_L_go _ _ _ _ _ _ _ _ _ _ _ h2 R.bo41 hst) tw946 tw947 tw0 tw948 rfl ⟨by decide +kernel, by decide +kernel, rfl⟩ ⟨rfl, rfl⟩ (by rw [hR]; exact ⟨Nat.le_of_ble_eq_true rfl, Nat.le_of_ble_eq_true rfl⟩) (Nat.le_of_ble_eq_true rfl) dL_law_1429 (by rw [hR]; exact ⟨by show k + 1 ≤ 604801; omega, by show n + 6 ≤ 7193636; omega⟩) (fun r1 X1 M1 K1 h1_ => ?_)
      obtain ⟨-, hr1, hX1, hM1, hK1⟩ := h1_.resolve_left (fun q => hc q.1)
      subst X1 M1 K1
      refine g_istore C dL_law_1432 (L' := [(6, .int (r1)), (0, .ref b), (1, .ref (gad G 0)), (2, .ref (gad G 42)), (3, .ref (gad G 74)), (4, .ref (gad G 75)), (5, .int (nI (6 * c)))]) rfl (by rw [hL]; decide) ?_
      refine g_aload_n C dL_law_1434 3 rfl ?_
      refine g_aload_n C dL_law_1435 1 rfl ?_
      refine g_iload C dL_law_1436 6 rfl ?_
      refine g_iconst C dL_law_1438 (v := 1) (by decide) ?_
      refine g_iadd C dL_law_1439 ?_
      refine g_topi (y := nI (6 * c + 1)) (nI_add (6 * c) 1) ?_
      refine g_scr C hX hb hbA (j := 6 * c + 1) (by omega) (by omega) dL_law_1440 ?_
      refine g_topi e1 ?_
      refine g_aload_n C dL_law_1441 1 rfl ?_
      refine g_iload C dL_law_1442 6 rfl ?_
      refine g_iconst C dL_law_1444 (v := 2) (by decide) ?_
      refine g_iadd C dL_law_1445 ?_
      refine g_topi (y := nI (6 * c + 2)) (nI_add (6 * c) 2) ?_
      refine g_scr C hX hb hbA (j := 6 * c + 2) (by omega) (by omega) dL_law_1446 ?_
      have jn4 : GH G (WX G X M K) [(6, .int (r1)), (0, .ref b), (1, .ref (gad G 0)), (2, .ref (gad G 42)), (3, .ref (gad G 74)), (4, .ref (gad G 75)), (5, .int (nI (6 * c)))] (k + 1) (n + 6) 1455 [.int (p2), .int (p1), .ref (gad G 42)] := by
        refine g_callViW C dL_law_1455 (c_X11_go _ _ _ _ _ _ _ _ _ _ _ h2 R.bo61) tw1593 tw1594 tw1595 tw16 tw1596 (rv_X11 C) rfl ⟨by decide +kernel, by decide +kernel, rfl⟩ ⟨rfl, rfl⟩ (by rw [hR]; exact ⟨Nat.le_of_ble_eq_true rfl, Nat.le_of_ble_eq_true rfl⟩) (Nat.le_of_ble_eq_true rfl) (by rw [hR]; exact ⟨by show k + 1 + 0 ≤ 604801; omega, by show n + 6 + 0 ≤ 7193636; omega⟩) (fun r2 X1 M1 K1 h2_ => ?_)
        obtain ⟨er, hX1, hM1, hK1⟩ := h2_
        rw [if_neg hx] at er hM1
        subst X1 M1 K1
        refine g_istore C dL_law_1458 (L' := [(7, .int (r2)), (6, .int (r1)), (0, .ref b), (1, .ref (gad G 0)), (2, .ref (gad G 42)), (3, .ref (gad G 74)), (4, .ref (gad G 75)), (5, .int (nI (6 * c)))]) rfl (by rw [hL]; decide) ?_
        refine g_aload_n C dL_law_1460 4 rfl ?_
        refine g_callViW C dL_law_1461 (c_X11_thrown _ _ _ _ _ _ _ _ _) tw1394 tw1395 tw1396 tw16 tw1397 (rv_X11 C) rfl ⟨by decide +kernel, by decide +kernel, rfl⟩ ⟨rfl, rfl⟩ (by rw [hR]; exact ⟨Nat.le_of_ble_eq_true rfl, Nat.le_of_ble_eq_true rfl⟩) (Nat.le_of_ble_eq_true rfl) (by rw [hR]; exact ⟨by show k + 1 + 0 + 0 ≤ 604801; omega, by show n + 6 + 0 + 0 ≤ 7193636; omega⟩) (fun r3 X1 M1 K1 h3 => ?_)
        obtain ⟨er3, hX1, hM1, hK1⟩ := h3
        subst X1 M1 K1
        have e3 : r3 = xs_b (md_nc p1) := er3.trans (by rfl)
        refine g_iload C dL_law_1464 1 rfl ?_
        refine g_icmp_eq C dL_law_1466 (tgt := 1471) (by decide) (fun q => ?_) (fun q => absurd (e3.trans (hcd.symm.trans hr1.symm)) q)
        refine g_iload C dL_law_1471 1 rfl ?_
        refine g_if_ne C dL_law_1473 (tgt := 1495) (by decide) (fun q => ?_) (fun q => absurd q (fun u => hc (hr1.symm.trans u)))
        refine g_goto C dL_law_1495 (tgt := 2415) (by decide) ?_
        exact g_sub [2, 3, 4, 5, 6, 7] rfl (kk _ _ _ _ _ _ _ _ _ _ (I.no _) ⟨by show k + 1 + 0 + 0 ≤ 100 + 2 * (c + 1) + (K.2.1 4 + K.2.1 5); omega, by show n + 6 + 0 + 0 ≤ 2000 + 520 * (c + 1) + (K.2.1 6 + K.2.1 7); omega⟩)
      refine g_if_eq C dL_law_1447 (tgt := 1454) (by decide) (fun q => ?_) (fun q => ?_)
      · refine g_iconst C dL_law_1454 (v := 0) (by decide) ?_
        exact g_topi (show (0 : Int32) = p2 by rw [← e2]; exact (if_pos q).symm) jn4
      · refine g_iconst C dL_law_1450 (v := 1) (by decide) ?_
        refine g_goto C dL_law_1451 (tgt := 1455) (by decide) ?_
        exact g_topi (show (1 : Int32) = p2 by rw [← e2]; exact (if_neg q).symm) jn4
    refine g_if_eq C dL_law_1420 (tgt := 1427) (by decide) (fun q => ?_) (fun q => ?_)
    · refine g_iconst C dL_law_1427 (v := 0) (by decide) ?_
      exact g_topi (show (0 : Int32) = p2 by rw [← e2]; exact (if_pos q).symm) jn3
    · refine g_iconst C dL_law_1423 (v := 1) (by decide) ?_
      refine g_goto C dL_law_1424 (tgt := 1428) (by decide) ?_
      exact g_topi (show (1 : Int32) = p2 by rw [← e2]; exact (if_neg q).symm) jn3

set_option maxHeartbeats 1000000 in
set_option maxRecDepth 100000 in
theorem lc_value {G : MC} {b Ln c : Nat} {xs : Nat → Int32} {v z z5 z8 zs : Nat} {X M : XF} {K : KF} {k n : Nat} (E : LawG G b Ln xs) (hcL : 6 * c + 6 ≤ Ln) (I : Inv c v z z5 z8 zs X M K) (hm : rmO c K k n) (kk : LwS G b c) : GH G (WX G X M K) [(0, .ref b), (1, .ref (gad G 0)), (2, .ref (gad G 42)), (3, .ref (gad G 74)), (4, .ref (gad G 75)), (5, .int (nI (6 * c)))] k n 1498 [] := by
  obtain ⟨C, hst, hN, hX, hb, hbA, hLn, hR, hL⟩ := E
  have R := I.rel
  have hc5 : c < 512 := by omega
  have hnum := I.num (by omega)
  have hlen := I.len (by omega)
  obtain ⟨hm1, hm2⟩ := hm
  have hk2 := I.k2
  have hzk := I.zk
  have hsN := I.sN
  obtain ⟨p1, e1⟩ : ∃ p, xs (6 * c + 1) = p := ⟨_, rfl⟩
  have hcd : xk_b p1 (nI z) = xs_b (md_no p1 (M 117 0)) := by rw [R.m6]; exact cd_bz (by have := R.l6; omega) _
  by_cases hc : xk_b p1 (nI z) = 0
  · have hx : xs_b (md_no p1 (M 117 0)) = 0 := hcd.symm.trans hc
    refine g_aload_n C dL_law_1498 1 rfl ?_
    refine g_aload_n C dL_law_1499 0 rfl ?_
    refine g_iload C dL_law_1500 5 rfl ?_
    refine g_iconst C dL_law_1502 (v := 1) (by decide) ?_
    refine g_iadd C dL_law_1503 ?_
    refine g_topi (y := nI (6 * c + 1)) (nI_add (6 * c) 1) ?_
    refine g_scr C hX hb hbA (j := 6 * c + 1) (by omega) (by omega) dL_law_1504 ?_
    refine g_topi e1 ?_
    refine g_aload_n C dL_law_1505 3 rfl ?_
    refine g_callH C hN (c_L_value _ _ _ _ _ _ _ _ _ _ _ R.x6 R.l6 R.ox hst) tw953 tw954 tw0 tw955 rfl ⟨by decide +kernel, by decide +kernel, rfl⟩ ⟨rfl, rfl⟩ (by rw [hR]; exact ⟨Nat.le_of_ble_eq_true rfl, Nat.le_of_ble_eq_true rfl⟩) (Nat.le_of_ble_eq_true rfl) dL_law_1506 (by rw [hR]; exact ⟨by show k + 1 ≤ 604801; omega, by show n + 6 ≤ 7193636; omega⟩) (fun r1 X1 M1 K1 h1_ => ?_)
    obtain ⟨-, rfl, hX1, hM1, hK1⟩ := h1_.resolve_right (fun q => q.1 hc)
    subst X1 M1 K1
    refine g_istore C dL_law_1509 (L' := [(6, .int (0)), (0, .ref b), (1, .ref (gad G 0)), (2, .ref (gad G 42)), (3, .ref (gad G 74)), (4, .ref (gad G 75)), (5, .int (nI (6 * c)))]) rfl (by rw [hL]; decide) ?_
    refine g_aload_n C dL_law_1511 3 rfl ?_
    refine g_aload_n C dL_law_1512 1 rfl ?_
    refine g_iload C dL_law_1513 6 rfl ?_
    refine g_iconst C dL_law_1515 (v := 1) (by decide) ?_
    refine g_iadd C dL_law_1516 ?_
    refine g_topi (y := nI (6 * c + 1)) (nI_add (6 * c) 1) ?_
    refine g_scr C hX hb hbA (j := 6 * c + 1) (by omega) (by omega) dL_law_1517 ?_
    refine g_topi e1 ?_
    refine g_callViW C dL_law_1518 (c_X11_value _ _ _ _ _ _ _ _ _ _ _ R.m6 R.l6 R.om _ R.xs hzk hk2 R.n57) tw1597 tw1598 tw1599 tw16 tw1600 (rv_X11 C) rfl ⟨by decide +kernel, by decide +kernel, rfl⟩ ⟨rfl, rfl⟩ (by rw [hR]; exact ⟨Nat.le_of_ble_eq_true rfl, Nat.le_of_ble_eq_true rfl⟩) (Nat.le_of_ble_eq_true rfl) (by rw [hR]; exact ⟨by show k + 1 + 0 ≤ 604801; omega, by show n + 6 + 0 ≤ 7193636; omega⟩) (fun r2 X1 M1 K1 h2_ => ?_)
    obtain ⟨er, hX1, hM1, hK1⟩ := h2_
    rw [if_pos hx] at er hM1
    subst X1 M1 K1
    have heq : (cl_val X p1.toNatClampNeg : Int32) = r2 := (q_value _ R (xb_ix (by have := R.l6; omega) hc)).trans er.symm
    refine g_istore C dL_law_1521 (L' := [(7, .int (r2)), (6, .int (0)), (0, .ref b), (1, .ref (gad G 0)), (2, .ref (gad G 42)), (3, .ref (gad G 74)), (4, .ref (gad G 75)), (5, .int (nI (6 * c)))]) rfl (by rw [hL]; decide) ?_
    refine g_aload_n C dL_law_1523 4 rfl ?_
    refine g_callViW C dL_law_1524 (c_X11_thrown _ _ _ _ _ _ _ _ _) tw1394 tw1395 tw1396 tw16 tw1397 (rv_X11 C) rfl ⟨by decide +kernel, by decide +kernel, rfl⟩ ⟨rfl, rfl⟩ (by rw [hR]; exact ⟨Nat.le_of_ble_eq_true rfl, Nat.le_of_ble_eq_true rfl⟩) (Nat.le_of_ble_eq_true rfl) (by rw [hR]; exact ⟨by show k + 1 + 0 + 0 ≤ 604801; omega, by show n + 6 + 0 + 0 ≤ 7193636; omega⟩) (fun r3 X1 M1 K1 h3 => ?_)
    obtain ⟨er3, hX1, hM1, hK1⟩ := h3
    subst X1 M1 K1
    have e3 : r3 = 0 := er3.trans (by rfl)
    refine g_iload C dL_law_1527 1 rfl ?_
    refine g_icmp_eq C dL_law_1529 (tgt := 1534) (by decide) (fun q => ?_) (fun q => absurd e3 q)
    refine g_iload C dL_law_1534 1 rfl ?_
    refine g_if_ne C dL_law_1536 (tgt := 1551) (by decide) (fun q => absurd q (by decide)) (fun q => ?_)
    refine g_aload_n C dL_law_1539 5 rfl ?_
    refine g_iconst C dL_law_1540 (v := 0) (by decide) ?_
    refine al_74 C dL_law_1541 ?_
    refine g_topl (y := (cl_val X p1.toNatClampNeg : Int32).toInt64) (kO_at _ _) ?_
    refine g_iload C dL_law_1542 0 rfl ?_
    refine g_i2l C dL_law_1544 ?_
    refine g_lcmpe C (by rw [heq]) dL_law_1545 ?_
    refine g_if_eq C dL_law_1546 (tgt := 1551) (by decide) (fun q => ?_) (fun q => absurd (by decide) q)
    refine g_goto C dL_law_1551 (tgt := 2415) (by decide) ?_
    exact g_sub [2, 3, 4, 5, 6, 7] rfl (kk _ _ _ _ _ _ _ _ _ _ (I.stay _ (R.thr 0) rfl rfl rfl) ⟨by show k + 1 + 0 + 0 ≤ 100 + 2 * (c + 1) + (K.2.1 4 + K.2.1 5); omega, by show n + 6 + 0 + 0 ≤ 2000 + 520 * (c + 1) + (K.2.1 6 + K.2.1 7); omega⟩)
  · have hx : ¬ xs_b (md_no p1 (M 117 0)) = 0 := fun q => hc (hcd.trans q)
    refine g_aload_n C dL_law_1498 1 rfl ?_
    refine g_aload_n C dL_law_1499 0 rfl ?_
    refine g_iload C dL_law_1500 5 rfl ?_
    refine g_iconst C dL_law_1502 (v := 1) (by decide) ?_
    refine g_iadd C dL_law_1503 ?_
    refine g_topi (y := nI (6 * c + 1)) (nI_add (6 * c) 1) ?_
    refine g_scr C hX hb hbA (j := 6 * c + 1) (by omega) (by omega) dL_law_1504 ?_
    refine g_topi e1 ?_
    refine g_aload_n C dL_law_1505 3 rfl ?_
    refine g_callH C hN (c_L_value _ _ _ _ _ _ _ _ _ _ _ R.x6 R.l6 R.ox hst) tw953 tw954 tw0 tw955 rfl ⟨by decide +kernel, by decide +kernel, rfl⟩ ⟨rfl, rfl⟩ (by rw [hR]; exact ⟨Nat.le_of_ble_eq_true rfl, Nat.le_of_ble_eq_true rfl⟩) (Nat.le_of_ble_eq_true rfl) dL_law_1506 (by rw [hR]; exact ⟨by show k + 1 ≤ 604801; omega, by show n + 6 ≤ 7193636; omega⟩) (fun r1 X1 M1 K1 h1_ => ?_)
    obtain ⟨-, hr1, hX1, hM1, hK1⟩ := h1_.resolve_left (fun q => hc q.1)
    subst X1 M1 K1
    refine g_istore C dL_law_1509 (L' := [(6, .int (r1)), (0, .ref b), (1, .ref (gad G 0)), (2, .ref (gad G 42)), (3, .ref (gad G 74)), (4, .ref (gad G 75)), (5, .int (nI (6 * c)))]) rfl (by rw [hL]; decide) ?_
    refine g_aload_n C dL_law_1511 3 rfl ?_
    refine g_aload_n C dL_law_1512 1 rfl ?_
    refine g_iload C dL_law_1513 6 rfl ?_
    refine g_iconst C dL_law_1515 (v := 1) (by decide) ?_
    refine g_iadd C dL_law_1516 ?_
    refine g_topi (y := nI (6 * c + 1)) (nI_add (6 * c) 1) ?_
    refine g_scr C hX hb hbA (j := 6 * c + 1) (by omega) (by omega) dL_law_1517 ?_
    refine g_topi e1 ?_
    refine g_callViW C dL_law_1518 (c_X11_value _ _ _ _ _ _ _ _ _ _ _ R.m6 R.l6 R.om _ R.xs hzk hk2 R.n57) tw1597 tw1598 tw1599 tw16 tw1600 (rv_X11 C) rfl ⟨by decide +kernel, by decide +kernel, rfl⟩ ⟨rfl, rfl⟩ (by rw [hR]; exact ⟨Nat.le_of_ble_eq_true rfl, Nat.le_of_ble_eq_true rfl⟩) (Nat.le_of_ble_eq_true rfl) (by rw [hR]; exact ⟨by show k + 1 + 0 ≤ 604801; omega, by show n + 6 + 0 ≤ 7193636; omega⟩) (fun r2 X1 M1 K1 h2_ => ?_)
    obtain ⟨er, hX1, hM1, hK1⟩ := h2_
    rw [if_neg hx] at er hM1
    subst X1 M1 K1
    refine g_istore C dL_law_1521 (L' := [(7, .int (r2)), (6, .int (r1)), (0, .ref b), (1, .ref (gad G 0)), (2, .ref (gad G 42)), (3, .ref (gad G 74)), (4, .ref (gad G 75)), (5, .int (nI (6 * c)))]) rfl (by rw [hL]; decide) ?_
    refine g_aload_n C dL_law_1523 4 rfl ?_
    refine g_callViW C dL_law_1524 (c_X11_thrown _ _ _ _ _ _ _ _ _) tw1394 tw1395 tw1396 tw16 tw1397 (rv_X11 C) rfl ⟨by decide +kernel, by decide +kernel, rfl⟩ ⟨rfl, rfl⟩ (by rw [hR]; exact ⟨Nat.le_of_ble_eq_true rfl, Nat.le_of_ble_eq_true rfl⟩) (Nat.le_of_ble_eq_true rfl) (by rw [hR]; exact ⟨by show k + 1 + 0 + 0 ≤ 604801; omega, by show n + 6 + 0 + 0 ≤ 7193636; omega⟩) (fun r3 X1 M1 K1 h3 => ?_)
    obtain ⟨er3, hX1, hM1, hK1⟩ := h3
    subst X1 M1 K1
    have e3 : r3 = xs_b (md_no p1 (M 117 0)) := er3.trans (by rfl)
    refine g_iload C dL_law_1527 1 rfl ?_
    refine g_icmp_eq C dL_law_1529 (tgt := 1534) (by decide) (fun q => ?_) (fun q => absurd (e3.trans (hcd.symm.trans hr1.symm)) q)
    refine g_iload C dL_law_1534 1 rfl ?_
    refine g_if_ne C dL_law_1536 (tgt := 1551) (by decide) (fun q => ?_) (fun q => absurd q (fun u => hc (hr1.symm.trans u)))
    refine g_goto C dL_law_1551 (tgt := 2415) (by decide) ?_
    exact g_sub [2, 3, 4, 5, 6, 7] rfl (kk _ _ _ _ _ _ _ _ _ _ (I.no _) ⟨by show k + 1 + 0 + 0 ≤ 100 + 2 * (c + 1) + (K.2.1 4 + K.2.1 5); omega, by show n + 6 + 0 + 0 ≤ 2000 + 520 * (c + 1) + (K.2.1 6 + K.2.1 7); omega⟩)

set_option maxHeartbeats 1000000 in
set_option maxRecDepth 100000 in
theorem lc_holdsFor {G : MC} {b Ln c : Nat} {xs : Nat → Int32} {v z z5 z8 zs : Nat} {X M : XF} {K : KF} {k n : Nat} (E : LawG G b Ln xs) (hcL : 6 * c + 6 ≤ Ln) (I : Inv c v z z5 z8 zs X M K) (hm : rmO c K k n) (kk : LwS G b c) : GH G (WX G X M K) [(0, .ref b), (1, .ref (gad G 0)), (2, .ref (gad G 42)), (3, .ref (gad G 74)), (4, .ref (gad G 75)), (5, .int (nI (6 * c)))] k n 1554 [] := by
  obtain ⟨C, hst, hN, hX, hb, hbA, hLn, hR, hL⟩ := E
  have R := I.rel
  have hc5 : c < 512 := by omega
  have hnum := I.num (by omega)
  have hlen := I.len (by omega)
  obtain ⟨hm1, hm2⟩ := hm
  have hk2 := I.k2
  have hzk := I.zk
  have hsN := I.sN
  obtain ⟨p1, e1⟩ : ∃ p, xs (6 * c + 1) = p := ⟨_, rfl⟩
  have hcd : xk_b p1 (nI z) = xs_b (md_no p1 (M 117 0)) := by rw [R.m6]; exact cd_bz (by have := R.l6; omega) _
  by_cases hc : xk_b p1 (nI z) = 0
  · have hx : xs_b (md_no p1 (M 117 0)) = 0 := hcd.symm.trans hc
    refine g_aload_n C dL_law_1554 1 rfl ?_
    refine g_aload_n C dL_law_1555 0 rfl ?_
    refine g_iload C dL_law_1556 5 rfl ?_
    refine g_iconst C dL_law_1558 (v := 1) (by decide) ?_
    refine g_iadd C dL_law_1559 ?_
    refine g_topi (y := nI (6 * c + 1)) (nI_add (6 * c) 1) ?_
    refine g_scr C hX hb hbA (j := 6 * c + 1) (by omega) (by omega) dL_law_1560 ?_
    refine g_topi e1 ?_
    refine g_aload_n C dL_law_1561 3 rfl ?_
    refine g_callH C hN (c_L_holdsFor _ _ _ _ _ _ _ _ _ _ _ R.x6 R.l6 hst) tw964 tw965 tw0 tw966 rfl ⟨by decide +kernel, by decide +kernel, rfl⟩ ⟨rfl, rfl⟩ (by rw [hR]; exact ⟨Nat.le_of_ble_eq_true rfl, Nat.le_of_ble_eq_true rfl⟩) (Nat.le_of_ble_eq_true rfl) dL_law_1562 (by rw [hR]; exact ⟨by show k + 1 ≤ 604801; omega, by show n + 6 ≤ 7193636; omega⟩) (fun r1 X1 M1 K1 h1_ => ?_)
    obtain ⟨-, rfl, hX1, hM1, hK1⟩ := h1_.resolve_right (fun q => q.1 hc)
    subst X1 M1 K1
    refine g_istore C dL_law_1565 (L' := [(6, .int (0)), (0, .ref b), (1, .ref (gad G 0)), (2, .ref (gad G 42)), (3, .ref (gad G 74)), (4, .ref (gad G 75)), (5, .int (nI (6 * c)))]) rfl (by rw [hL]; decide) ?_
    refine g_aload_n C dL_law_1567 3 rfl ?_
    refine g_aload_n C dL_law_1568 1 rfl ?_
    refine g_iload C dL_law_1569 6 rfl ?_
    refine g_iconst C dL_law_1571 (v := 1) (by decide) ?_
    refine g_iadd C dL_law_1572 ?_
    refine g_topi (y := nI (6 * c + 1)) (nI_add (6 * c) 1) ?_
    refine g_scr C hX hb hbA (j := 6 * c + 1) (by omega) (by omega) dL_law_1573 ?_
    refine g_topi e1 ?_
    refine g_callViW C dL_law_1574 (c_X11_holdsFor _ _ _ _ _ _ _ _ _ _ _ R.m6 R.l6) tw1605 tw1606 tw1607 tw16 tw1608 (rv_X11 C) rfl ⟨by decide +kernel, by decide +kernel, rfl⟩ ⟨rfl, rfl⟩ (by rw [hR]; exact ⟨Nat.le_of_ble_eq_true rfl, Nat.le_of_ble_eq_true rfl⟩) (Nat.le_of_ble_eq_true rfl) (by rw [hR]; exact ⟨by show k + 1 + 0 ≤ 604801; omega, by show n + 6 + 0 ≤ 7193636; omega⟩) (fun r2 X1 M1 K1 h2_ => ?_)
    obtain ⟨er, hX1, hM1, hK1⟩ := h2_
    rw [if_pos hx] at er hM1
    subst X1 M1 K1
    have heq : (X 31 p1.toNatClampNeg : Int32) = r2 := (congrFun R.r.2.2.2.2.2.1 _).trans er.symm
    refine g_istore C dL_law_1577 (L' := [(7, .int (r2)), (6, .int (0)), (0, .ref b), (1, .ref (gad G 0)), (2, .ref (gad G 42)), (3, .ref (gad G 74)), (4, .ref (gad G 75)), (5, .int (nI (6 * c)))]) rfl (by rw [hL]; decide) ?_
    refine g_aload_n C dL_law_1579 4 rfl ?_
    refine g_callViW C dL_law_1580 (c_X11_thrown _ _ _ _ _ _ _ _ _) tw1394 tw1395 tw1396 tw16 tw1397 (rv_X11 C) rfl ⟨by decide +kernel, by decide +kernel, rfl⟩ ⟨rfl, rfl⟩ (by rw [hR]; exact ⟨Nat.le_of_ble_eq_true rfl, Nat.le_of_ble_eq_true rfl⟩) (Nat.le_of_ble_eq_true rfl) (by rw [hR]; exact ⟨by show k + 1 + 0 + 0 ≤ 604801; omega, by show n + 6 + 0 + 0 ≤ 7193636; omega⟩) (fun r3 X1 M1 K1 h3 => ?_)
    obtain ⟨er3, hX1, hM1, hK1⟩ := h3
    subst X1 M1 K1
    have e3 : r3 = 0 := er3.trans (by rfl)
    refine g_iload C dL_law_1583 1 rfl ?_
    refine g_icmp_eq C dL_law_1585 (tgt := 1590) (by decide) (fun q => ?_) (fun q => absurd e3 q)
    refine g_iload C dL_law_1590 1 rfl ?_
    refine g_if_ne C dL_law_1592 (tgt := 1607) (by decide) (fun q => absurd q (by decide)) (fun q => ?_)
    refine g_aload_n C dL_law_1595 5 rfl ?_
    refine g_iconst C dL_law_1596 (v := 0) (by decide) ?_
    refine al_74 C dL_law_1597 ?_
    refine g_topl (y := (X 31 p1.toNatClampNeg : Int32).toInt64) (kO_at _ _) ?_
    refine g_iload C dL_law_1598 0 rfl ?_
    refine g_i2l C dL_law_1600 ?_
    refine g_lcmpe C (by rw [heq]) dL_law_1601 ?_
    refine g_if_eq C dL_law_1602 (tgt := 1607) (by decide) (fun q => ?_) (fun q => absurd (by decide) q)
    refine g_goto C dL_law_1607 (tgt := 2415) (by decide) ?_
    exact g_sub [2, 3, 4, 5, 6, 7] rfl (kk _ _ _ _ _ _ _ _ _ _ (I.stay _ (R.thr 0) rfl rfl rfl) ⟨by show k + 1 + 0 + 0 ≤ 100 + 2 * (c + 1) + (K.2.1 4 + K.2.1 5); omega, by show n + 6 + 0 + 0 ≤ 2000 + 520 * (c + 1) + (K.2.1 6 + K.2.1 7); omega⟩)
  · have hx : ¬ xs_b (md_no p1 (M 117 0)) = 0 := fun q => hc (hcd.trans q)
    refine g_aload_n C dL_law_1554 1 rfl ?_
    refine g_aload_n C dL_law_1555 0 rfl ?_
    refine g_iload C dL_law_1556 5 rfl ?_
    refine g_iconst C dL_law_1558 (v := 1) (by decide) ?_
    refine g_iadd C dL_law_1559 ?_
    refine g_topi (y := nI (6 * c + 1)) (nI_add (6 * c) 1) ?_
    refine g_scr C hX hb hbA (j := 6 * c + 1) (by omega) (by omega) dL_law_1560 ?_
    refine g_topi e1 ?_
    refine g_aload_n C dL_law_1561 3 rfl ?_
    refine g_callH C hN (c_L_holdsFor _ _ _ _ _ _ _ _ _ _ _ R.x6 R.l6 hst) tw964 tw965 tw0 tw966 rfl ⟨by decide +kernel, by decide +kernel, rfl⟩ ⟨rfl, rfl⟩ (by rw [hR]; exact ⟨Nat.le_of_ble_eq_true rfl, Nat.le_of_ble_eq_true rfl⟩) (Nat.le_of_ble_eq_true rfl) dL_law_1562 (by rw [hR]; exact ⟨by show k + 1 ≤ 604801; omega, by show n + 6 ≤ 7193636; omega⟩) (fun r1 X1 M1 K1 h1_ => ?_)
    obtain ⟨-, hr1, hX1, hM1, hK1⟩ := h1_.resolve_left (fun q => hc q.1)
    subst X1 M1 K1
    refine g_istore C dL_law_1565 (L' := [(6, .int (r1)), (0, .ref b), (1, .ref (gad G 0)), (2, .ref (gad G 42)), (3, .ref (gad G 74)), (4, .ref (gad G 75)), (5, .int (nI (6 * c)))]) rfl (by rw [hL]; decide) ?_
    refine g_aload_n C dL_law_1567 3 rfl ?_
    refine g_aload_n C dL_law_1568 1 rfl ?_
    refine g_iload C dL_law_1569 6 rfl ?_
    refine g_iconst C dL_law_1571 (v := 1) (by decide) ?_
    refine g_iadd C dL_law_1572 ?_
    refine g_topi (y := nI (6 * c + 1)) (nI_add (6 * c) 1) ?_
    refine g_scr C hX hb hbA (j := 6 * c + 1) (by omega) (by omega) dL_law_1573 ?_
    refine g_topi e1 ?_
    refine g_callViW C dL_law_1574 (c_X11_holdsFor _ _ _ _ _ _ _ _ _ _ _ R.m6 R.l6) tw1605 tw1606 tw1607 tw16 tw1608 (rv_X11 C) rfl ⟨by decide +kernel, by decide +kernel, rfl⟩ ⟨rfl, rfl⟩ (by rw [hR]; exact ⟨Nat.le_of_ble_eq_true rfl, Nat.le_of_ble_eq_true rfl⟩) (Nat.le_of_ble_eq_true rfl) (by rw [hR]; exact ⟨by show k + 1 + 0 ≤ 604801; omega, by show n + 6 + 0 ≤ 7193636; omega⟩) (fun r2 X1 M1 K1 h2_ => ?_)
    obtain ⟨er, hX1, hM1, hK1⟩ := h2_
    rw [if_neg hx] at er hM1
    subst X1 M1 K1
    refine g_istore C dL_law_1577 (L' := [(7, .int (r2)), (6, .int (r1)), (0, .ref b), (1, .ref (gad G 0)), (2, .ref (gad G 42)), (3, .ref (gad G 74)), (4, .ref (gad G 75)), (5, .int (nI (6 * c)))]) rfl (by rw [hL]; decide) ?_
    refine g_aload_n C dL_law_1579 4 rfl ?_
    refine g_callViW C dL_law_1580 (c_X11_thrown _ _ _ _ _ _ _ _ _) tw1394 tw1395 tw1396 tw16 tw1397 (rv_X11 C) rfl ⟨by decide +kernel, by decide +kernel, rfl⟩ ⟨rfl, rfl⟩ (by rw [hR]; exact ⟨Nat.le_of_ble_eq_true rfl, Nat.le_of_ble_eq_true rfl⟩) (Nat.le_of_ble_eq_true rfl) (by rw [hR]; exact ⟨by show k + 1 + 0 + 0 ≤ 604801; omega, by show n + 6 + 0 + 0 ≤ 7193636; omega⟩) (fun r3 X1 M1 K1 h3 => ?_)
    obtain ⟨er3, hX1, hM1, hK1⟩ := h3
    subst X1 M1 K1
    have e3 : r3 = xs_b (md_no p1 (M 117 0)) := er3.trans (by rfl)
    refine g_iload C dL_law_1583 1 rfl ?_
    refine g_icmp_eq C dL_law_1585 (tgt := 1590) (by decide) (fun q => ?_) (fun q => absurd (e3.trans (hcd.symm.trans hr1.symm)) q)
    refine g_iload C dL_law_1590 1 rfl ?_
    refine g_if_ne C dL_law_1592 (tgt := 1607) (by decide) (fun q => ?_) (fun q => absurd q (fun u => hc (hr1.symm.trans u)))
    refine g_goto C dL_law_1607 (tgt := 2415) (by decide) ?_
    exact g_sub [2, 3, 4, 5, 6, 7] rfl (kk _ _ _ _ _ _ _ _ _ _ (I.no _) ⟨by show k + 1 + 0 + 0 ≤ 100 + 2 * (c + 1) + (K.2.1 4 + K.2.1 5); omega, by show n + 6 + 0 + 0 ≤ 2000 + 520 * (c + 1) + (K.2.1 6 + K.2.1 7); omega⟩)

set_option maxHeartbeats 1000000 in
set_option maxRecDepth 100000 in
theorem lc_isMet {G : MC} {b Ln c : Nat} {xs : Nat → Int32} {v z z5 z8 zs : Nat} {X M : XF} {K : KF} {k n : Nat} (E : LawG G b Ln xs) (hcL : 6 * c + 6 ≤ Ln) (I : Inv c v z z5 z8 zs X M K) (hm : rmO c K k n) (kk : LwS G b c) : GH G (WX G X M K) [(0, .ref b), (1, .ref (gad G 0)), (2, .ref (gad G 42)), (3, .ref (gad G 74)), (4, .ref (gad G 75)), (5, .int (nI (6 * c)))] k n 1610 [] := by
  obtain ⟨C, hst, hN, hX, hb, hbA, hLn, hR, hL⟩ := E
  have R := I.rel
  have hc5 : c < 512 := by omega
  have hnum := I.num (by omega)
  have hlen := I.len (by omega)
  obtain ⟨hm1, hm2⟩ := hm
  have hk2 := I.k2
  have hzk := I.zk
  have hsN := I.sN
  obtain ⟨p1, e1⟩ : ∃ p, xs (6 * c + 1) = p := ⟨_, rfl⟩
  have hcd : xk_b p1 (nI z) = xs_b (md_no p1 (M 117 0)) := by rw [R.m6]; exact cd_bz (by have := R.l6; omega) _
  by_cases hc : xk_b p1 (nI z) = 0
  · have hx : xs_b (md_no p1 (M 117 0)) = 0 := hcd.symm.trans hc
    refine g_aload_n C dL_law_1610 1 rfl ?_
    refine g_aload_n C dL_law_1611 0 rfl ?_
    refine g_iload C dL_law_1612 5 rfl ?_
    refine g_iconst C dL_law_1614 (v := 1) (by decide) ?_
    refine g_iadd C dL_law_1615 ?_
    refine g_topi (y := nI (6 * c + 1)) (nI_add (6 * c) 1) ?_
    refine g_scr C hX hb hbA (j := 6 * c + 1) (by omega) (by omega) dL_law_1616 ?_
    refine g_topi e1 ?_
    refine g_aload_n C dL_law_1617 3 rfl ?_
    refine g_callH C hN (c_L_isMet _ _ _ _ _ _ _ _ _ _ _ R.x6 R.l6 R.ox hst) tw971 tw972 tw0 tw973 rfl ⟨by decide +kernel, by decide +kernel, rfl⟩ ⟨rfl, rfl⟩ (by rw [hR]; exact ⟨Nat.le_of_ble_eq_true rfl, Nat.le_of_ble_eq_true rfl⟩) (Nat.le_of_ble_eq_true rfl) dL_law_1618 (by rw [hR]; exact ⟨by show k + 1 ≤ 604801; omega, by show n + 6 ≤ 7193636; omega⟩) (fun r1 X1 M1 K1 h1_ => ?_)
    obtain ⟨-, rfl, hX1, hM1, hK1⟩ := h1_.resolve_right (fun q => q.1 hc)
    subst X1 M1 K1
    refine g_istore C dL_law_1621 (L' := [(6, .int (0)), (0, .ref b), (1, .ref (gad G 0)), (2, .ref (gad G 42)), (3, .ref (gad G 74)), (4, .ref (gad G 75)), (5, .int (nI (6 * c)))]) rfl (by rw [hL]; decide) ?_
    refine g_aload_n C dL_law_1623 3 rfl ?_
    refine g_aload_n C dL_law_1624 1 rfl ?_
    refine g_iload C dL_law_1625 6 rfl ?_
    refine g_iconst C dL_law_1627 (v := 1) (by decide) ?_
    refine g_iadd C dL_law_1628 ?_
    refine g_topi (y := nI (6 * c + 1)) (nI_add (6 * c) 1) ?_
    refine g_scr C hX hb hbA (j := 6 * c + 1) (by omega) (by omega) dL_law_1629 ?_
    refine g_topi e1 ?_
    refine g_callViW C dL_law_1630 (c_X11_isMet _ _ _ _ _ _ _ _ _ _ _ R.m6 R.l6 R.om _ R.xs hzk hk2 R.n57) tw1609 tw1610 tw1611 tw16 tw1612 (rv_X11 C) rfl ⟨by decide +kernel, by decide +kernel, rfl⟩ ⟨rfl, rfl⟩ (by rw [hR]; exact ⟨Nat.le_of_ble_eq_true rfl, Nat.le_of_ble_eq_true rfl⟩) (Nat.le_of_ble_eq_true rfl) (by rw [hR]; exact ⟨by show k + 1 + 0 ≤ 604801; omega, by show n + 6 + 0 ≤ 7193636; omega⟩) (fun r2 X1 M1 K1 h2_ => ?_)
    obtain ⟨er, hX1, hM1, hK1⟩ := h2_
    rw [if_pos hx] at er hM1
    subst X1 M1 K1
    have heq : (cl_met X p1.toNatClampNeg : Int32) = r2 := ((q_met _ R (xb_ix (by have := R.l6; omega) hc)).trans (bo_if (md_met_bo _ _ _ _)).symm).trans er.symm
    refine g_istore C dL_law_1633 (L' := [(7, .int (r2)), (6, .int (0)), (0, .ref b), (1, .ref (gad G 0)), (2, .ref (gad G 42)), (3, .ref (gad G 74)), (4, .ref (gad G 75)), (5, .int (nI (6 * c)))]) rfl (by rw [hL]; decide) ?_
    refine g_aload_n C dL_law_1635 4 rfl ?_
    refine g_callViW C dL_law_1636 (c_X11_thrown _ _ _ _ _ _ _ _ _) tw1394 tw1395 tw1396 tw16 tw1397 (rv_X11 C) rfl ⟨by decide +kernel, by decide +kernel, rfl⟩ ⟨rfl, rfl⟩ (by rw [hR]; exact ⟨Nat.le_of_ble_eq_true rfl, Nat.le_of_ble_eq_true rfl⟩) (Nat.le_of_ble_eq_true rfl) (by rw [hR]; exact ⟨by show k + 1 + 0 + 0 ≤ 604801; omega, by show n + 6 + 0 + 0 ≤ 7193636; omega⟩) (fun r3 X1 M1 K1 h3 => ?_)
    obtain ⟨er3, hX1, hM1, hK1⟩ := h3
    subst X1 M1 K1
    have e3 : r3 = 0 := er3.trans (by rfl)
    refine g_iload C dL_law_1639 1 rfl ?_
    refine g_icmp_eq C dL_law_1641 (tgt := 1646) (by decide) (fun q => ?_) (fun q => absurd e3 q)
    refine g_iload C dL_law_1646 1 rfl ?_
    refine g_if_ne C dL_law_1648 (tgt := 1670) (by decide) (fun q => absurd q (by decide)) (fun q => ?_)
    refine g_aload_n C dL_law_1651 5 rfl ?_
    refine g_iconst C dL_law_1652 (v := 0) (by decide) ?_
    refine al_74 C dL_law_1653 ?_
    refine g_topl (y := (if (cl_met X p1.toNatClampNeg : Int32) = 0 then 0 else 1)) (kO_at _ _) ?_
    refine g_iload C dL_law_1654 0 rfl ?_
    refine g_if_eq C dL_law_1656 (tgt := 1663) (by decide) (fun q => ?_) (fun q => ?_)
    · refine g_lconst C dL_law_1663 (v := 0) (by decide) ?_
      refine g_lcmpe C (by rw [heq, if_pos q]) dL_law_1664 ?_
      refine g_if_eq C dL_law_1665 (tgt := 1670) (by decide) (fun q => ?_) (fun q => absurd (by decide) q)
      refine g_goto C dL_law_1670 (tgt := 2415) (by decide) ?_
      exact g_sub [2, 3, 4, 5, 6, 7] rfl (kk _ _ _ _ _ _ _ _ _ _ (I.stay _ (R.thr 0) rfl rfl rfl) ⟨by show k + 1 + 0 + 0 ≤ 100 + 2 * (c + 1) + (K.2.1 4 + K.2.1 5); omega, by show n + 6 + 0 + 0 ≤ 2000 + 520 * (c + 1) + (K.2.1 6 + K.2.1 7); omega⟩)
    · refine g_lconst C dL_law_1659 (v := 1) (by decide) ?_
      refine g_goto C dL_law_1660 (tgt := 1664) (by decide) ?_
      refine g_lcmpe C (by rw [heq, if_neg q]) dL_law_1664 ?_
      refine g_if_eq C dL_law_1665 (tgt := 1670) (by decide) (fun q => ?_) (fun q => absurd (by decide) q)
      refine g_goto C dL_law_1670 (tgt := 2415) (by decide) ?_
      exact g_sub [2, 3, 4, 5, 6, 7] rfl (kk _ _ _ _ _ _ _ _ _ _ (I.stay _ (R.thr 0) rfl rfl rfl) ⟨by show k + 1 + 0 + 0 ≤ 100 + 2 * (c + 1) + (K.2.1 4 + K.2.1 5); omega, by show n + 6 + 0 + 0 ≤ 2000 + 520 * (c + 1) + (K.2.1 6 + K.2.1 7); omega⟩)
  · have hx : ¬ xs_b (md_no p1 (M 117 0)) = 0 := fun q => hc (hcd.trans q)
    refine g_aload_n C dL_law_1610 1 rfl ?_
    refine g_aload_n C dL_law_1611 0 rfl ?_
    refine g_iload C dL_law_1612 5 rfl ?_
    refine g_iconst C dL_law_1614 (v := 1) (by decide) ?_
    refine g_iadd C dL_law_1615 ?_
    refine g_topi (y := nI (6 * c + 1)) (nI_add (6 * c) 1) ?_
    refine g_scr C hX hb hbA (j := 6 * c + 1) (by omega) (by omega) dL_law_1616 ?_
    refine g_topi e1 ?_
    refine g_aload_n C dL_law_1617 3 rfl ?_
    refine g_callH C hN (c_L_isMet _ _ _ _ _ _ _ _ _ _ _ R.x6 R.l6 R.ox hst) tw971 tw972 tw0 tw973 rfl ⟨by decide +kernel, by decide +kernel, rfl⟩ ⟨rfl, rfl⟩ (by rw [hR]; exact ⟨Nat.le_of_ble_eq_true rfl, Nat.le_of_ble_eq_true rfl⟩) (Nat.le_of_ble_eq_true rfl) dL_law_1618 (by rw [hR]; exact ⟨by show k + 1 ≤ 604801; omega, by show n + 6 ≤ 7193636; omega⟩) (fun r1 X1 M1 K1 h1_ => ?_)
    obtain ⟨-, hr1, hX1, hM1, hK1⟩ := h1_.resolve_left (fun q => hc q.1)
    subst X1 M1 K1
    refine g_istore C dL_law_1621 (L' := [(6, .int (r1)), (0, .ref b), (1, .ref (gad G 0)), (2, .ref (gad G 42)), (3, .ref (gad G 74)), (4, .ref (gad G 75)), (5, .int (nI (6 * c)))]) rfl (by rw [hL]; decide) ?_
    refine g_aload_n C dL_law_1623 3 rfl ?_
    refine g_aload_n C dL_law_1624 1 rfl ?_
    refine g_iload C dL_law_1625 6 rfl ?_
    refine g_iconst C dL_law_1627 (v := 1) (by decide) ?_
    refine g_iadd C dL_law_1628 ?_
    refine g_topi (y := nI (6 * c + 1)) (nI_add (6 * c) 1) ?_
    refine g_scr C hX hb hbA (j := 6 * c + 1) (by omega) (by omega) dL_law_1629 ?_
    refine g_topi e1 ?_
    refine g_callViW C dL_law_1630 (c_X11_isMet _ _ _ _ _ _ _ _ _ _ _ R.m6 R.l6 R.om _ R.xs hzk hk2 R.n57) tw1609 tw1610 tw1611 tw16 tw1612 (rv_X11 C) rfl ⟨by decide +kernel, by decide +kernel, rfl⟩ ⟨rfl, rfl⟩ (by rw [hR]; exact ⟨Nat.le_of_ble_eq_true rfl, Nat.le_of_ble_eq_true rfl⟩) (Nat.le_of_ble_eq_true rfl) (by rw [hR]; exact ⟨by show k + 1 + 0 ≤ 604801; omega, by show n + 6 + 0 ≤ 7193636; omega⟩) (fun r2 X1 M1 K1 h2_ => ?_)
    obtain ⟨er, hX1, hM1, hK1⟩ := h2_
    rw [if_neg hx] at er hM1
    subst X1 M1 K1
    refine g_istore C dL_law_1633 (L' := [(7, .int (r2)), (6, .int (r1)), (0, .ref b), (1, .ref (gad G 0)), (2, .ref (gad G 42)), (3, .ref (gad G 74)), (4, .ref (gad G 75)), (5, .int (nI (6 * c)))]) rfl (by rw [hL]; decide) ?_
    refine g_aload_n C dL_law_1635 4 rfl ?_
    refine g_callViW C dL_law_1636 (c_X11_thrown _ _ _ _ _ _ _ _ _) tw1394 tw1395 tw1396 tw16 tw1397 (rv_X11 C) rfl ⟨by decide +kernel, by decide +kernel, rfl⟩ ⟨rfl, rfl⟩ (by rw [hR]; exact ⟨Nat.le_of_ble_eq_true rfl, Nat.le_of_ble_eq_true rfl⟩) (Nat.le_of_ble_eq_true rfl) (by rw [hR]; exact ⟨by show k + 1 + 0 + 0 ≤ 604801; omega, by show n + 6 + 0 + 0 ≤ 7193636; omega⟩) (fun r3 X1 M1 K1 h3 => ?_)
    obtain ⟨er3, hX1, hM1, hK1⟩ := h3
    subst X1 M1 K1
    have e3 : r3 = xs_b (md_no p1 (M 117 0)) := er3.trans (by rfl)
    refine g_iload C dL_law_1639 1 rfl ?_
    refine g_icmp_eq C dL_law_1641 (tgt := 1646) (by decide) (fun q => ?_) (fun q => absurd (e3.trans (hcd.symm.trans hr1.symm)) q)
    refine g_iload C dL_law_1646 1 rfl ?_
    refine g_if_ne C dL_law_1648 (tgt := 1670) (by decide) (fun q => ?_) (fun q => absurd q (fun u => hc (hr1.symm.trans u)))
    refine g_goto C dL_law_1670 (tgt := 2415) (by decide) ?_
    exact g_sub [2, 3, 4, 5, 6, 7] rfl (kk _ _ _ _ _ _ _ _ _ _ (I.no _) ⟨by show k + 1 + 0 + 0 ≤ 100 + 2 * (c + 1) + (K.2.1 4 + K.2.1 5); omega, by show n + 6 + 0 + 0 ≤ 2000 + 520 * (c + 1) + (K.2.1 6 + K.2.1 7); omega⟩)

set_option maxHeartbeats 1000000 in
set_option maxRecDepth 100000 in
theorem lc_begin {G : MC} {b Ln c : Nat} {xs : Nat → Int32} {v z z5 z8 zs : Nat} {X M : XF} {K : KF} {k n : Nat} (E : LawG G b Ln xs) (hcL : 6 * c + 6 ≤ Ln) (I : Inv c v z z5 z8 zs X M K) (hm : rmO c K k n) (kk : LwS G b c) : GH G (WX G X M K) [(0, .ref b), (1, .ref (gad G 0)), (2, .ref (gad G 42)), (3, .ref (gad G 74)), (4, .ref (gad G 75)), (5, .int (nI (6 * c)))] k n 1673 [] := by
  obtain ⟨C, hst, hN, hX, hb, hbA, hLn, hR, hL⟩ := E
  have R := I.rel
  have hc5 : c < 512 := by omega
  have hnum := I.num (by omega)
  have hlen := I.len (by omega)
  obtain ⟨hm1, hm2⟩ := hm
  have hk2 := I.k2
  have hzk := I.zk
  have hsN := I.sN
  obtain ⟨p1, e1⟩ : ∃ p, xs (6 * c + 1) = p := ⟨_, rfl⟩
  obtain ⟨p2, e2⟩ : ∃ p, xs (6 * c + 2) = p := ⟨_, rfl⟩
  obtain ⟨p3, e3⟩ : ∃ p, xs (6 * c + 3) = p := ⟨_, rfl⟩
  have hcd : xk_begin (X 118 0) p1 p2 p3 = xs_begin (M 102 0) p1 p2 p3 := by rw [← R.st]; exact cd_begin _ _ _ _
  by_cases hc : xk_begin (X 118 0) p1 p2 p3 = 0
  · have hx : xs_begin (M 102 0) p1 p2 p3 = 0 := hcd.symm.trans hc
    have hI := iv_begin I hc5 p1 p2 p3 hc (X 101 0 - p1 : Int32).toInt64
    have f0 : (kLs (mb_K M (kO (kLs K 0 v [67]) (X 101 0 - p1 : Int32).toInt64) p2 p3) 1 v [67]).2.1 0 = (kLs K 0 v [67]).2.1 0 ∧ (kLs (mb_K M (kO (kLs K 0 v [67]) (X 101 0 - p1 : Int32).toInt64) p2 p3) 1 v [67]).2.1 4 = (kLs K 0 v [67]).2.1 4 ∧ (kLs (mb_K M (kO (kLs K 0 v [67]) (X 101 0 - p1 : Int32).toInt64) p2 p3) 1 v [67]).2.1 6 = (kLs K 0 v [67]).2.1 6 := sd_n (w := 0) (K := mb_K M (kO (kLs K 0 v [67]) (X 101 0 - p1 : Int32).toInt64) p2 p3) (sd_ls10 v [67] _)
    have f1 : (kLs K 0 v [67]).2.1 1 = K.2.1 1 ∧ (kLs K 0 v [67]).2.1 5 = K.2.1 5 ∧ (kLs K 0 v [67]).2.1 7 = K.2.1 7 := sd_n (w := 1) (sd_ls01 v [67] K)
    have l0 : K.2.1 0 ≤ (kLs K 0 v [67]).2.1 0 ∧ K.2.1 4 ≤ (kLs K 0 v [67]).2.1 4 ∧ K.2.1 6 ≤ (kLs K 0 v [67]).2.1 6 := kLs_le0 v [67] K
    have l1 : (kLs K 0 v [67]).2.1 1 ≤ (kLs (mb_K M (kO (kLs K 0 v [67]) (X 101 0 - p1 : Int32).toInt64) p2 p3) 1 v [67]).2.1 1 ∧ (kLs K 0 v [67]).2.1 5 ≤ (kLs (mb_K M (kO (kLs K 0 v [67]) (X 101 0 - p1 : Int32).toInt64) p2 p3) 1 v [67]).2.1 5 ∧ (kLs K 0 v [67]).2.1 7 ≤ (kLs (mb_K M (kO (kLs K 0 v [67]) (X 101 0 - p1 : Int32).toInt64) p2 p3) 1 v [67]).2.1 7 := kLs_le1 v [67] (mb_K M (kO (kLs K 0 v [67]) (X 101 0 - p1 : Int32).toInt64) p2 p3)
    have nP := hI.2.num (by omega)
    have hcapX : (kLs K 0 v [67]).2.1 0 < 2 ^ 26 := by omega
    have h161 : 16 ≤ (kLs K 0 v [67]).2.1 1 := by omega
    have hcapM : (kLs (mb_K M (kO (kLs K 0 v [67]) (X 101 0 - p1 : Int32).toInt64) p2 p3) 1 v [67]).2.1 1 < 2 ^ 26 := by omega
    have t5 : (kO (kLs K 0 v [67]) (X 101 0 - p1 : Int32).toInt64).2.1 5 = (kLs K 0 v [67]).2.1 5 := rfl
    have t7 : (kO (kLs K 0 v [67]) (X 101 0 - p1 : Int32).toInt64).2.1 7 = (kLs K 0 v [67]).2.1 7 := rfl
    refine g_aload_n C dL_law_1673 1 rfl ?_
    refine g_aload_n C dL_law_1674 0 rfl ?_
    refine g_iload C dL_law_1675 5 rfl ?_
    refine g_iconst C dL_law_1677 (v := 1) (by decide) ?_
    refine g_iadd C dL_law_1678 ?_
    refine g_topi (y := nI (6 * c + 1)) (nI_add (6 * c) 1) ?_
    refine g_scr C hX hb hbA (j := 6 * c + 1) (by omega) (by omega) dL_law_1679 ?_
    refine g_topi e1 ?_
    refine g_aload_n C dL_law_1680 0 rfl ?_
    refine g_iload C dL_law_1681 5 rfl ?_
    refine g_iconst C dL_law_1683 (v := 2) (by decide) ?_
    refine g_iadd C dL_law_1684 ?_
    refine g_topi (y := nI (6 * c + 2)) (nI_add (6 * c) 2) ?_
    refine g_scr C hX hb hbA (j := 6 * c + 2) (by omega) (by omega) dL_law_1685 ?_
    refine g_topi e2 ?_
    refine g_aload_n C dL_law_1686 0 rfl ?_
    refine g_iload C dL_law_1687 5 rfl ?_
    refine g_iconst C dL_law_1689 (v := 3) (by decide) ?_
    refine g_iadd C dL_law_1690 ?_
    refine g_topi (y := nI (6 * c + 3)) (nI_add (6 * c) 3) ?_
    refine g_scr C hX hb hbA (j := 6 * c + 3) (by omega) (by omega) dL_law_1691 ?_
    refine g_topi e3 ?_
    refine g_aload_n C dL_law_1692 3 rfl ?_
    refine g_callH C hN (c_L_begin _ _ _ _ _ _ _ _ _ _ _ _ _ _ _ _ R.okS R.l6 R.l5 R.l8 (by have := R.lv; omega) hnum.1.1 hcapX hst) tw990 tw991 tw0 tw992 rfl ⟨by decide +kernel, by decide +kernel, rfl⟩ ⟨rfl, rfl⟩ (by rw [hR]; exact ⟨Nat.le_of_ble_eq_true rfl, Nat.le_of_ble_eq_true rfl⟩) (Nat.le_of_ble_eq_true rfl) dL_law_1693 (by rw [hR]; exact ⟨by show k + ((kLs K 0 v [67]).2.1 4 - K.2.1 4 + 1) ≤ 604801; omega, by show n + ((kLs K 0 v [67]).2.1 6 - K.2.1 6 + 6) ≤ 7193636; omega⟩) (fun r1 X1 M1 K1 h1_ => ?_)
    obtain ⟨-, rfl, hX1, hM1, hK1⟩ := h1_.resolve_right (fun q => q.1 hc)
    subst X1 M1 K1
    refine g_istore C dL_law_1696 (L' := [(6, .int (0)), (0, .ref b), (1, .ref (gad G 0)), (2, .ref (gad G 42)), (3, .ref (gad G 74)), (4, .ref (gad G 75)), (5, .int (nI (6 * c)))]) rfl (by rw [hL]; decide) ?_
    refine g_aload_n C dL_law_1698 3 rfl ?_
    refine g_aload_n C dL_law_1699 1 rfl ?_
    refine g_iload C dL_law_1700 6 rfl ?_
    refine g_iconst C dL_law_1702 (v := 1) (by decide) ?_
    refine g_iadd C dL_law_1703 ?_
    refine g_topi (y := nI (6 * c + 1)) (nI_add (6 * c) 1) ?_
    refine g_scr C hX hb hbA (j := 6 * c + 1) (by omega) (by omega) dL_law_1704 ?_
    refine g_topi e1 ?_
    refine g_aload_n C dL_law_1705 1 rfl ?_
    refine g_iload C dL_law_1706 6 rfl ?_
    refine g_iconst C dL_law_1708 (v := 2) (by decide) ?_
    refine g_iadd C dL_law_1709 ?_
    refine g_topi (y := nI (6 * c + 2)) (nI_add (6 * c) 2) ?_
    refine g_scr C hX hb hbA (j := 6 * c + 2) (by omega) (by omega) dL_law_1710 ?_
    refine g_topi e2 ?_
    refine g_aload_n C dL_law_1711 1 rfl ?_
    refine g_iload C dL_law_1712 6 rfl ?_
    refine g_iconst C dL_law_1714 (v := 3) (by decide) ?_
    refine g_iadd C dL_law_1715 ?_
    refine g_topi (y := nI (6 * c + 3)) (nI_add (6 * c) 3) ?_
    refine g_scr C hX hb hbA (j := 6 * c + 3) (by omega) (by omega) dL_law_1716 ?_
    refine g_topi e3 ?_
    refine g_callViW C dL_law_1717 (c_X11_begin _ _ _ _ _ _ _ _ _ _ _ _ _ R.m8 R.l8 _ (by have := R.lv; omega) R.m1 h161 hcapM) tw1621 tw1622 tw1623 tw16 tw1624 (rv_X11 C) rfl ⟨by decide +kernel, by decide +kernel, rfl⟩ ⟨rfl, rfl⟩ (by rw [hR]; exact ⟨Nat.le_of_ble_eq_true rfl, Nat.le_of_ble_eq_true rfl⟩) (Nat.le_of_ble_eq_true rfl) (by rw [hR]; exact ⟨by show k + ((kLs K 0 v [67]).2.1 4 - K.2.1 4 + 1) + ((kLs (mb_K M (kO (kLs K 0 v [67]) (X 101 0 - p1 : Int32).toInt64) p2 p3) 1 v [67]).2.1 5 - (kO (kLs K 0 v [67]) (X 101 0 - p1 : Int32).toInt64).2.1 5) ≤ 604801; omega, by show n + ((kLs K 0 v [67]).2.1 6 - K.2.1 6 + 6) + ((kLs (mb_K M (kO (kLs K 0 v [67]) (X 101 0 - p1 : Int32).toInt64) p2 p3) 1 v [67]).2.1 7 - (kO (kLs K 0 v [67]) (X 101 0 - p1 : Int32).toInt64).2.1 7) ≤ 7193636; omega⟩) (fun r2 X1 M1 K1 h2_ => ?_)
    obtain ⟨er, hX1, hM1, hK1⟩ := h2_
    rw [if_pos hx] at er hM1 hK1
    subst X1 M1 K1
    have heq : (X 101 0 - p1 : Int32) = r2 := (hI.1).trans er.symm
    refine g_istore C dL_law_1720 (L' := [(7, .int (r2)), (6, .int (0)), (0, .ref b), (1, .ref (gad G 0)), (2, .ref (gad G 42)), (3, .ref (gad G 74)), (4, .ref (gad G 75)), (5, .int (nI (6 * c)))]) rfl (by rw [hL]; decide) ?_
    refine g_aload_n C dL_law_1722 4 rfl ?_
    refine g_callViW C dL_law_1723 (c_X11_thrown _ _ _ _ _ _ _ _ _) tw1394 tw1395 tw1396 tw16 tw1397 (rv_X11 C) rfl ⟨by decide +kernel, by decide +kernel, rfl⟩ ⟨rfl, rfl⟩ (by rw [hR]; exact ⟨Nat.le_of_ble_eq_true rfl, Nat.le_of_ble_eq_true rfl⟩) (Nat.le_of_ble_eq_true rfl) (by rw [hR]; exact ⟨by show k + ((kLs K 0 v [67]).2.1 4 - K.2.1 4 + 1) + ((kLs (mb_K M (kO (kLs K 0 v [67]) (X 101 0 - p1 : Int32).toInt64) p2 p3) 1 v [67]).2.1 5 - (kO (kLs K 0 v [67]) (X 101 0 - p1 : Int32).toInt64).2.1 5) + 0 ≤ 604801; omega, by show n + ((kLs K 0 v [67]).2.1 6 - K.2.1 6 + 6) + ((kLs (mb_K M (kO (kLs K 0 v [67]) (X 101 0 - p1 : Int32).toInt64) p2 p3) 1 v [67]).2.1 7 - (kO (kLs K 0 v [67]) (X 101 0 - p1 : Int32).toInt64).2.1 7) + 0 ≤ 7193636; omega⟩) (fun r3 X1 M1 K1 h3 => ?_)
    obtain ⟨er3, hX1, hM1, hK1⟩ := h3
    subst X1 M1 K1
    have e3 : r3 = 0 := er3.trans (by rfl)
    refine g_iload C dL_law_1726 1 rfl ?_
    refine g_icmp_eq C dL_law_1728 (tgt := 1733) (by decide) (fun q => ?_) (fun q => absurd e3 q)
    refine g_iload C dL_law_1733 1 rfl ?_
    refine g_if_ne C dL_law_1735 (tgt := 1750) (by decide) (fun q => absurd q (by decide)) (fun q => ?_)
    refine g_aload_n C dL_law_1738 5 rfl ?_
    refine g_iconst C dL_law_1739 (v := 0) (by decide) ?_
    refine al_74 C dL_law_1740 ?_
    refine g_topl (y := (X 101 0 - p1 : Int32).toInt64) (by rw [rs_o (rs_ls 1 (by omega) v [67] (mb_K M (kO (kLs K 0 v [67]) (X 101 0 - p1 : Int32).toInt64) p2 p3))]; exact kO_at _ _) ?_
    refine g_iload C dL_law_1741 0 rfl ?_
    refine g_i2l C dL_law_1743 ?_
    refine g_lcmpe C (by rw [heq]) dL_law_1744 ?_
    refine g_if_eq C dL_law_1745 (tgt := 1750) (by decide) (fun q => ?_) (fun q => absurd (by decide) q)
    refine g_goto C dL_law_1750 (tgt := 2415) (by decide) ?_
    exact g_sub [2, 3, 4, 5, 6, 7] rfl (kk _ _ _ _ _ _ _ _ _ _ hI.2 ⟨by show k + ((kLs K 0 v [67]).2.1 4 - K.2.1 4 + 1) + ((kLs (mb_K M (kO (kLs K 0 v [67]) (X 101 0 - p1 : Int32).toInt64) p2 p3) 1 v [67]).2.1 5 - (kO (kLs K 0 v [67]) (X 101 0 - p1 : Int32).toInt64).2.1 5) + 0 ≤ 100 + 2 * (c + 1) + ((kLs (mb_K M (kO (kLs K 0 v [67]) (X 101 0 - p1 : Int32).toInt64) p2 p3) 1 v [67]).2.1 4 + (kLs (mb_K M (kO (kLs K 0 v [67]) (X 101 0 - p1 : Int32).toInt64) p2 p3) 1 v [67]).2.1 5); omega, by show n + ((kLs K 0 v [67]).2.1 6 - K.2.1 6 + 6) + ((kLs (mb_K M (kO (kLs K 0 v [67]) (X 101 0 - p1 : Int32).toInt64) p2 p3) 1 v [67]).2.1 7 - (kO (kLs K 0 v [67]) (X 101 0 - p1 : Int32).toInt64).2.1 7) + 0 ≤ 2000 + 520 * (c + 1) + ((kLs (mb_K M (kO (kLs K 0 v [67]) (X 101 0 - p1 : Int32).toInt64) p2 p3) 1 v [67]).2.1 6 + (kLs (mb_K M (kO (kLs K 0 v [67]) (X 101 0 - p1 : Int32).toInt64) p2 p3) 1 v [67]).2.1 7); omega⟩)
  · have hx : ¬ xs_begin (M 102 0) p1 p2 p3 = 0 := fun q => hc (hcd.trans q)
    refine g_aload_n C dL_law_1673 1 rfl ?_
    refine g_aload_n C dL_law_1674 0 rfl ?_
    refine g_iload C dL_law_1675 5 rfl ?_
    refine g_iconst C dL_law_1677 (v := 1) (by decide) ?_
    refine g_iadd C dL_law_1678 ?_
    refine g_topi (y := nI (6 * c + 1)) (nI_add (6 * c) 1) ?_
    refine g_scr C hX hb hbA (j := 6 * c + 1) (by omega) (by omega) dL_law_1679 ?_
    refine g_topi e1 ?_
    refine g_aload_n C dL_law_1680 0 rfl ?_
    refine g_iload C dL_law_1681 5 rfl ?_
    refine g_iconst C dL_law_1683 (v := 2) (by decide) ?_
    refine g_iadd C dL_law_1684 ?_
    refine g_topi (y := nI (6 * c + 2)) (nI_add (6 * c) 2) ?_
    refine g_scr C hX hb hbA (j := 6 * c + 2) (by omega) (by omega) dL_law_1685 ?_
    refine g_topi e2 ?_
    refine g_aload_n C dL_law_1686 0 rfl ?_
    refine g_iload C dL_law_1687 5 rfl ?_
    refine g_iconst C dL_law_1689 (v := 3) (by decide) ?_
    refine g_iadd C dL_law_1690 ?_
    refine g_topi (y := nI (6 * c + 3)) (nI_add (6 * c) 3) ?_
    refine g_scr C hX hb hbA (j := 6 * c + 3) (by omega) (by omega) dL_law_1691 ?_
    refine g_topi e3 ?_
    refine g_aload_n C dL_law_1692 3 rfl ?_
    refine g_callH C hN (c_L_beginX _ _ _ _ _ _ _ _ _ _ _ _ hc hst) tw990 tw991 tw0 tw992 rfl ⟨by decide +kernel, by decide +kernel, rfl⟩ ⟨rfl, rfl⟩ (by rw [hR]; exact ⟨Nat.le_of_ble_eq_true rfl, Nat.le_of_ble_eq_true rfl⟩) (Nat.le_of_ble_eq_true rfl) dL_law_1693 (by rw [hR]; exact ⟨by show k + 1 ≤ 604801; omega, by show n + 6 ≤ 7193636; omega⟩) (fun r1 X1 M1 K1 h1_ => ?_)
    obtain ⟨-, hr1, hX1, hM1, hK1⟩ := h1_.resolve_left (fun q => hc q.1)
    subst X1 M1 K1
    refine g_istore C dL_law_1696 (L' := [(6, .int (r1)), (0, .ref b), (1, .ref (gad G 0)), (2, .ref (gad G 42)), (3, .ref (gad G 74)), (4, .ref (gad G 75)), (5, .int (nI (6 * c)))]) rfl (by rw [hL]; decide) ?_
    refine g_aload_n C dL_law_1698 3 rfl ?_
    refine g_aload_n C dL_law_1699 1 rfl ?_
    refine g_iload C dL_law_1700 6 rfl ?_
    refine g_iconst C dL_law_1702 (v := 1) (by decide) ?_
    refine g_iadd C dL_law_1703 ?_
    refine g_topi (y := nI (6 * c + 1)) (nI_add (6 * c) 1) ?_
    refine g_scr C hX hb hbA (j := 6 * c + 1) (by omega) (by omega) dL_law_1704 ?_
    refine g_topi e1 ?_
    refine g_aload_n C dL_law_1705 1 rfl ?_
    refine g_iload C dL_law_1706 6 rfl ?_
    refine g_iconst C dL_law_1708 (v := 2) (by decide) ?_
    refine g_iadd C dL_law_1709 ?_
    refine g_topi (y := nI (6 * c + 2)) (nI_add (6 * c) 2) ?_
    refine g_scr C hX hb hbA (j := 6 * c + 2) (by omega) (by omega) dL_law_1710 ?_
    refine g_topi e2 ?_
    refine g_aload_n C dL_law_1711 1 rfl ?_
    refine g_iload C dL_law_1712 6 rfl ?_
    refine g_iconst C dL_law_1714 (v := 3) (by decide) ?_
    refine g_iadd C dL_law_1715 ?_
    refine g_topi (y := nI (6 * c + 3)) (nI_add (6 * c) 3) ?_
    refine g_scr C hX hb hbA (j := 6 * c + 3) (by omega) (by omega) dL_law_1716 ?_
    refine g_topi e3 ?_
    refine g_callViW C dL_law_1717 (c_X11_beginX _ _ _ _ _ _ _ _ _ _ _ _ hx) tw1621 tw1622 tw1623 tw16 tw1624 (rv_X11 C) rfl ⟨by decide +kernel, by decide +kernel, rfl⟩ ⟨rfl, rfl⟩ (by rw [hR]; exact ⟨Nat.le_of_ble_eq_true rfl, Nat.le_of_ble_eq_true rfl⟩) (Nat.le_of_ble_eq_true rfl) (by rw [hR]; exact ⟨by show k + 1 + 0 ≤ 604801; omega, by show n + 6 + 0 ≤ 7193636; omega⟩) (fun r2 X1 M1 K1 h2_ => ?_)
    obtain ⟨er, hX1, hM1, hK1⟩ := h2_
    subst X1 M1 K1
    refine g_istore C dL_law_1720 (L' := [(7, .int (r2)), (6, .int (r1)), (0, .ref b), (1, .ref (gad G 0)), (2, .ref (gad G 42)), (3, .ref (gad G 74)), (4, .ref (gad G 75)), (5, .int (nI (6 * c)))]) rfl (by rw [hL]; decide) ?_
    refine g_aload_n C dL_law_1722 4 rfl ?_
    refine g_callViW C dL_law_1723 (c_X11_thrown _ _ _ _ _ _ _ _ _) tw1394 tw1395 tw1396 tw16 tw1397 (rv_X11 C) rfl ⟨by decide +kernel, by decide +kernel, rfl⟩ ⟨rfl, rfl⟩ (by rw [hR]; exact ⟨Nat.le_of_ble_eq_true rfl, Nat.le_of_ble_eq_true rfl⟩) (Nat.le_of_ble_eq_true rfl) (by rw [hR]; exact ⟨by show k + 1 + 0 + 0 ≤ 604801; omega, by show n + 6 + 0 + 0 ≤ 7193636; omega⟩) (fun r3 X1 M1 K1 h3 => ?_)
    obtain ⟨er3, hX1, hM1, hK1⟩ := h3
    subst X1 M1 K1
    have e3 : r3 = xs_begin (M 102 0) p1 p2 p3 := er3.trans (by rfl)
    refine g_iload C dL_law_1726 1 rfl ?_
    refine g_icmp_eq C dL_law_1728 (tgt := 1733) (by decide) (fun q => ?_) (fun q => absurd (e3.trans (hcd.symm.trans hr1.symm)) q)
    refine g_iload C dL_law_1733 1 rfl ?_
    refine g_if_ne C dL_law_1735 (tgt := 1750) (by decide) (fun q => ?_) (fun q => absurd q (fun u => hc (hr1.symm.trans u)))
    refine g_goto C dL_law_1750 (tgt := 2415) (by decide) ?_
    exact g_sub [2, 3, 4, 5, 6, 7] rfl (kk _ _ _ _ _ _ _ _ _ _ (I.no _) ⟨by show k + 1 + 0 + 0 ≤ 100 + 2 * (c + 1) + (K.2.1 4 + K.2.1 5); omega, by show n + 6 + 0 + 0 ≤ 2000 + 520 * (c + 1) + (K.2.1 6 + K.2.1 7); omega⟩)

set_option maxHeartbeats 1000000 in
set_option maxRecDepth 100000 in
theorem lc_recycle {G : MC} {b Ln c : Nat} {xs : Nat → Int32} {v z z5 z8 zs : Nat} {X M : XF} {K : KF} {k n : Nat} (E : LawG G b Ln xs) (hcL : 6 * c + 6 ≤ Ln) (I : Inv c v z z5 z8 zs X M K) (hm : rmO c K k n) (kk : LwS G b c) : GH G (WX G X M K) [(0, .ref b), (1, .ref (gad G 0)), (2, .ref (gad G 42)), (3, .ref (gad G 74)), (4, .ref (gad G 75)), (5, .int (nI (6 * c)))] k n 1753 [] := by
  obtain ⟨C, hst, hN, hX, hb, hbA, hLn, hR, hL⟩ := E
  have R := I.rel
  have hc5 : c < 512 := by omega
  have hnum := I.num (by omega)
  have hlen := I.len (by omega)
  obtain ⟨hm1, hm2⟩ := hm
  have hk2 := I.k2
  have hzk := I.zk
  have hsN := I.sN
  obtain ⟨p1, e1⟩ : ∃ p, xs (6 * c + 1) = p := ⟨_, rfl⟩
  have hcd : xk_rec (X 14) z5 (X 118 0) (X 106 0) p1 = xs_rec (M 53) (M 114 0) (M 102 0) (M 104 0) p1 := by rw [R.m5, ← R.st, ← R.2.2.1.1, ← R.c0.2.2.2.1]; exact cd_rec _ R.l5 _ _ _
  by_cases hc : xk_rec (X 14) z5 (X 118 0) (X 106 0) p1 = 0
  · have hx : xs_rec (M 53) (M 114 0) (M 102 0) (M 104 0) p1 = 0 := hcd.symm.trans hc
    have hI := iv_rec I hc5 p1 hc (sp_undoN (X 8) (X 12) (X 14 p1.toNatClampNeg) z8 : Int32).toInt64
    have f0 : (kLs (kO (kLs K 0 v [82]) (sp_undoN (X 8) (X 12) (X 14 p1.toNatClampNeg) z8 : Int32).toInt64) 1 v [82]).2.1 0 = (kLs K 0 v [82]).2.1 0 ∧ (kLs (kO (kLs K 0 v [82]) (sp_undoN (X 8) (X 12) (X 14 p1.toNatClampNeg) z8 : Int32).toInt64) 1 v [82]).2.1 4 = (kLs K 0 v [82]).2.1 4 ∧ (kLs (kO (kLs K 0 v [82]) (sp_undoN (X 8) (X 12) (X 14 p1.toNatClampNeg) z8 : Int32).toInt64) 1 v [82]).2.1 6 = (kLs K 0 v [82]).2.1 6 := sd_n (w := 0) (K := (kO (kLs K 0 v [82]) (sp_undoN (X 8) (X 12) (X 14 p1.toNatClampNeg) z8 : Int32).toInt64)) (sd_ls10 v [82] _)
    have f1 : (kLs K 0 v [82]).2.1 1 = K.2.1 1 ∧ (kLs K 0 v [82]).2.1 5 = K.2.1 5 ∧ (kLs K 0 v [82]).2.1 7 = K.2.1 7 := sd_n (w := 1) (sd_ls01 v [82] K)
    have l0 : K.2.1 0 ≤ (kLs K 0 v [82]).2.1 0 ∧ K.2.1 4 ≤ (kLs K 0 v [82]).2.1 4 ∧ K.2.1 6 ≤ (kLs K 0 v [82]).2.1 6 := kLs_le0 v [82] K
    have l1 : (kLs K 0 v [82]).2.1 1 ≤ (kLs (kO (kLs K 0 v [82]) (sp_undoN (X 8) (X 12) (X 14 p1.toNatClampNeg) z8 : Int32).toInt64) 1 v [82]).2.1 1 ∧ (kLs K 0 v [82]).2.1 5 ≤ (kLs (kO (kLs K 0 v [82]) (sp_undoN (X 8) (X 12) (X 14 p1.toNatClampNeg) z8 : Int32).toInt64) 1 v [82]).2.1 5 ∧ (kLs K 0 v [82]).2.1 7 ≤ (kLs (kO (kLs K 0 v [82]) (sp_undoN (X 8) (X 12) (X 14 p1.toNatClampNeg) z8 : Int32).toInt64) 1 v [82]).2.1 7 := kLs_le1 v [82] (kO (kLs K 0 v [82]) (sp_undoN (X 8) (X 12) (X 14 p1.toNatClampNeg) z8 : Int32).toInt64)
    have nP := hI.2.num (by omega)
    have hcapX : (kLs K 0 v [82]).2.1 0 < 2 ^ 26 := by omega
    have h161 : 16 ≤ (kLs K 0 v [82]).2.1 1 := by omega
    have hcapM : (kLs (kO (kLs K 0 v [82]) (sp_undoN (X 8) (X 12) (X 14 p1.toNatClampNeg) z8 : Int32).toInt64) 1 v [82]).2.1 1 < 2 ^ 26 := by omega
    have t5 : (kO (kLs K 0 v [82]) (sp_undoN (X 8) (X 12) (X 14 p1.toNatClampNeg) z8 : Int32).toInt64).2.1 5 = (kLs K 0 v [82]).2.1 5 := rfl
    have t7 : (kO (kLs K 0 v [82]) (sp_undoN (X 8) (X 12) (X 14 p1.toNatClampNeg) z8 : Int32).toInt64).2.1 7 = (kLs K 0 v [82]).2.1 7 := rfl
    refine g_aload_n C dL_law_1753 1 rfl ?_
    refine g_aload_n C dL_law_1754 0 rfl ?_
    refine g_iload C dL_law_1755 5 rfl ?_
    refine g_iconst C dL_law_1757 (v := 1) (by decide) ?_
    refine g_iadd C dL_law_1758 ?_
    refine g_topi (y := nI (6 * c + 1)) (nI_add (6 * c) 1) ?_
    refine g_scr C hX hb hbA (j := 6 * c + 1) (by omega) (by omega) dL_law_1759 ?_
    refine g_topi e1 ?_
    refine g_aload_n C dL_law_1760 3 rfl ?_
    refine g_callH C hN (c_L_recycle _ _ _ _ _ _ _ _ _ _ _ _ _ _ R.okS R.l6 R.l5 R.l8 (by have := R.lv; omega) hnum.1.1 hcapX hst) tw1010 tw1011 tw0 tw1012 rfl ⟨by decide +kernel, by decide +kernel, rfl⟩ ⟨rfl, rfl⟩ (by rw [hR]; exact ⟨Nat.le_of_ble_eq_true rfl, Nat.le_of_ble_eq_true rfl⟩) (Nat.le_of_ble_eq_true rfl) dL_law_1761 (by rw [hR]; exact ⟨by show k + ((kLs K 0 v [82]).2.1 4 - K.2.1 4 + 1) ≤ 604801; omega, by show n + ((kLs K 0 v [82]).2.1 6 - K.2.1 6 + 6) ≤ 7193636; omega⟩) (fun r1 X1 M1 K1 h1_ => ?_)
    obtain ⟨-, rfl, hX1, hM1, hK1⟩ := h1_.resolve_right (fun q => q.1 hc)
    subst X1 M1 K1
    refine g_istore C dL_law_1764 (L' := [(6, .int (0)), (0, .ref b), (1, .ref (gad G 0)), (2, .ref (gad G 42)), (3, .ref (gad G 74)), (4, .ref (gad G 75)), (5, .int (nI (6 * c)))]) rfl (by rw [hL]; decide) ?_
    refine g_aload_n C dL_law_1766 3 rfl ?_
    refine g_aload_n C dL_law_1767 1 rfl ?_
    refine g_iload C dL_law_1768 6 rfl ?_
    refine g_iconst C dL_law_1770 (v := 1) (by decide) ?_
    refine g_iadd C dL_law_1771 ?_
    refine g_topi (y := nI (6 * c + 1)) (nI_add (6 * c) 1) ?_
    refine g_scr C hX hb hbA (j := 6 * c + 1) (by omega) (by omega) dL_law_1772 ?_
    refine g_topi e1 ?_
    refine g_callViW C dL_law_1773 (c_X11_recycle _ _ _ _ _ _ _ _ _ _ _ R.m5 R.l5 _ R.m8 R.l8 _ (by have := R.lv; omega) R.m1 h161 hcapM) tw1637 tw1638 tw1639 tw16 tw1640 (rv_X11 C) rfl ⟨by decide +kernel, by decide +kernel, rfl⟩ ⟨rfl, rfl⟩ (by rw [hR]; exact ⟨Nat.le_of_ble_eq_true rfl, Nat.le_of_ble_eq_true rfl⟩) (Nat.le_of_ble_eq_true rfl) (by rw [hR]; exact ⟨by show k + ((kLs K 0 v [82]).2.1 4 - K.2.1 4 + 1) + ((kLs (kO (kLs K 0 v [82]) (sp_undoN (X 8) (X 12) (X 14 p1.toNatClampNeg) z8 : Int32).toInt64) 1 v [82]).2.1 5 - (kO (kLs K 0 v [82]) (sp_undoN (X 8) (X 12) (X 14 p1.toNatClampNeg) z8 : Int32).toInt64).2.1 5) ≤ 604801; omega, by show n + ((kLs K 0 v [82]).2.1 6 - K.2.1 6 + 6) + ((kLs (kO (kLs K 0 v [82]) (sp_undoN (X 8) (X 12) (X 14 p1.toNatClampNeg) z8 : Int32).toInt64) 1 v [82]).2.1 7 - (kO (kLs K 0 v [82]) (sp_undoN (X 8) (X 12) (X 14 p1.toNatClampNeg) z8 : Int32).toInt64).2.1 7) ≤ 7193636; omega⟩) (fun r2 X1 M1 K1 h2_ => ?_)
    obtain ⟨er, hX1, hM1, hK1⟩ := h2_
    rw [if_pos hx] at er hM1 hK1
    subst X1 M1 K1
    have heq : (sp_undoN (X 8) (X 12) (X 14 p1.toNatClampNeg) z8 : Int32) = r2 := (hI.1).trans er.symm
    refine g_istore C dL_law_1776 (L' := [(7, .int (r2)), (6, .int (0)), (0, .ref b), (1, .ref (gad G 0)), (2, .ref (gad G 42)), (3, .ref (gad G 74)), (4, .ref (gad G 75)), (5, .int (nI (6 * c)))]) rfl (by rw [hL]; decide) ?_
    refine g_aload_n C dL_law_1778 4 rfl ?_
    refine g_callViW C dL_law_1779 (c_X11_thrown _ _ _ _ _ _ _ _ _) tw1394 tw1395 tw1396 tw16 tw1397 (rv_X11 C) rfl ⟨by decide +kernel, by decide +kernel, rfl⟩ ⟨rfl, rfl⟩ (by rw [hR]; exact ⟨Nat.le_of_ble_eq_true rfl, Nat.le_of_ble_eq_true rfl⟩) (Nat.le_of_ble_eq_true rfl) (by rw [hR]; exact ⟨by show k + ((kLs K 0 v [82]).2.1 4 - K.2.1 4 + 1) + ((kLs (kO (kLs K 0 v [82]) (sp_undoN (X 8) (X 12) (X 14 p1.toNatClampNeg) z8 : Int32).toInt64) 1 v [82]).2.1 5 - (kO (kLs K 0 v [82]) (sp_undoN (X 8) (X 12) (X 14 p1.toNatClampNeg) z8 : Int32).toInt64).2.1 5) + 0 ≤ 604801; omega, by show n + ((kLs K 0 v [82]).2.1 6 - K.2.1 6 + 6) + ((kLs (kO (kLs K 0 v [82]) (sp_undoN (X 8) (X 12) (X 14 p1.toNatClampNeg) z8 : Int32).toInt64) 1 v [82]).2.1 7 - (kO (kLs K 0 v [82]) (sp_undoN (X 8) (X 12) (X 14 p1.toNatClampNeg) z8 : Int32).toInt64).2.1 7) + 0 ≤ 7193636; omega⟩) (fun r3 X1 M1 K1 h3 => ?_)
    obtain ⟨er3, hX1, hM1, hK1⟩ := h3
    subst X1 M1 K1
    have e3 : r3 = 0 := er3.trans (by rfl)
    refine g_iload C dL_law_1782 1 rfl ?_
    refine g_icmp_eq C dL_law_1784 (tgt := 1789) (by decide) (fun q => ?_) (fun q => absurd e3 q)
    refine g_iload C dL_law_1789 1 rfl ?_
    refine g_if_ne C dL_law_1791 (tgt := 1806) (by decide) (fun q => absurd q (by decide)) (fun q => ?_)
    refine g_aload_n C dL_law_1794 5 rfl ?_
    refine g_iconst C dL_law_1795 (v := 0) (by decide) ?_
    refine al_74 C dL_law_1796 ?_
    refine g_topl (y := (sp_undoN (X 8) (X 12) (X 14 p1.toNatClampNeg) z8 : Int32).toInt64) (by rw [rs_o (rs_ls 1 (by omega) v [82] (kO (kLs K 0 v [82]) (sp_undoN (X 8) (X 12) (X 14 p1.toNatClampNeg) z8 : Int32).toInt64))]; exact kO_at _ _) ?_
    refine g_iload C dL_law_1797 0 rfl ?_
    refine g_i2l C dL_law_1799 ?_
    refine g_lcmpe C (by rw [heq]) dL_law_1800 ?_
    refine g_if_eq C dL_law_1801 (tgt := 1806) (by decide) (fun q => ?_) (fun q => absurd (by decide) q)
    refine g_goto C dL_law_1806 (tgt := 2415) (by decide) ?_
    exact g_sub [2, 3, 4, 5, 6, 7] rfl (kk _ _ _ _ _ _ _ _ _ _ hI.2 ⟨by show k + ((kLs K 0 v [82]).2.1 4 - K.2.1 4 + 1) + ((kLs (kO (kLs K 0 v [82]) (sp_undoN (X 8) (X 12) (X 14 p1.toNatClampNeg) z8 : Int32).toInt64) 1 v [82]).2.1 5 - (kO (kLs K 0 v [82]) (sp_undoN (X 8) (X 12) (X 14 p1.toNatClampNeg) z8 : Int32).toInt64).2.1 5) + 0 ≤ 100 + 2 * (c + 1) + ((kLs (kO (kLs K 0 v [82]) (sp_undoN (X 8) (X 12) (X 14 p1.toNatClampNeg) z8 : Int32).toInt64) 1 v [82]).2.1 4 + (kLs (kO (kLs K 0 v [82]) (sp_undoN (X 8) (X 12) (X 14 p1.toNatClampNeg) z8 : Int32).toInt64) 1 v [82]).2.1 5); omega, by show n + ((kLs K 0 v [82]).2.1 6 - K.2.1 6 + 6) + ((kLs (kO (kLs K 0 v [82]) (sp_undoN (X 8) (X 12) (X 14 p1.toNatClampNeg) z8 : Int32).toInt64) 1 v [82]).2.1 7 - (kO (kLs K 0 v [82]) (sp_undoN (X 8) (X 12) (X 14 p1.toNatClampNeg) z8 : Int32).toInt64).2.1 7) + 0 ≤ 2000 + 520 * (c + 1) + ((kLs (kO (kLs K 0 v [82]) (sp_undoN (X 8) (X 12) (X 14 p1.toNatClampNeg) z8 : Int32).toInt64) 1 v [82]).2.1 6 + (kLs (kO (kLs K 0 v [82]) (sp_undoN (X 8) (X 12) (X 14 p1.toNatClampNeg) z8 : Int32).toInt64) 1 v [82]).2.1 7); omega⟩)
  · have hx : ¬ xs_rec (M 53) (M 114 0) (M 102 0) (M 104 0) p1 = 0 := fun q => hc (hcd.trans q)
    refine g_aload_n C dL_law_1753 1 rfl ?_
    refine g_aload_n C dL_law_1754 0 rfl ?_
    refine g_iload C dL_law_1755 5 rfl ?_
    refine g_iconst C dL_law_1757 (v := 1) (by decide) ?_
    refine g_iadd C dL_law_1758 ?_
    refine g_topi (y := nI (6 * c + 1)) (nI_add (6 * c) 1) ?_
    refine g_scr C hX hb hbA (j := 6 * c + 1) (by omega) (by omega) dL_law_1759 ?_
    refine g_topi e1 ?_
    refine g_aload_n C dL_law_1760 3 rfl ?_
    refine g_callH C hN (c_L_recycleX _ _ _ _ _ _ _ _ _ _ _ R.x5 R.l5 hc hst) tw1010 tw1011 tw0 tw1012 rfl ⟨by decide +kernel, by decide +kernel, rfl⟩ ⟨rfl, rfl⟩ (by rw [hR]; exact ⟨Nat.le_of_ble_eq_true rfl, Nat.le_of_ble_eq_true rfl⟩) (Nat.le_of_ble_eq_true rfl) dL_law_1761 (by rw [hR]; exact ⟨by show k + 1 ≤ 604801; omega, by show n + 6 ≤ 7193636; omega⟩) (fun r1 X1 M1 K1 h1_ => ?_)
    obtain ⟨-, hr1, hX1, hM1, hK1⟩ := h1_.resolve_left (fun q => hc q.1)
    subst X1 M1 K1
    refine g_istore C dL_law_1764 (L' := [(6, .int (r1)), (0, .ref b), (1, .ref (gad G 0)), (2, .ref (gad G 42)), (3, .ref (gad G 74)), (4, .ref (gad G 75)), (5, .int (nI (6 * c)))]) rfl (by rw [hL]; decide) ?_
    refine g_aload_n C dL_law_1766 3 rfl ?_
    refine g_aload_n C dL_law_1767 1 rfl ?_
    refine g_iload C dL_law_1768 6 rfl ?_
    refine g_iconst C dL_law_1770 (v := 1) (by decide) ?_
    refine g_iadd C dL_law_1771 ?_
    refine g_topi (y := nI (6 * c + 1)) (nI_add (6 * c) 1) ?_
    refine g_scr C hX hb hbA (j := 6 * c + 1) (by omega) (by omega) dL_law_1772 ?_
    refine g_topi e1 ?_
    refine g_callViW C dL_law_1773 (c_X11_recycleX _ _ _ _ _ _ _ _ _ _ _ R.m5 R.l5 hx) tw1637 tw1638 tw1639 tw16 tw1640 (rv_X11 C) rfl ⟨by decide +kernel, by decide +kernel, rfl⟩ ⟨rfl, rfl⟩ (by rw [hR]; exact ⟨Nat.le_of_ble_eq_true rfl, Nat.le_of_ble_eq_true rfl⟩) (Nat.le_of_ble_eq_true rfl) (by rw [hR]; exact ⟨by show k + 1 + 0 ≤ 604801; omega, by show n + 6 + 0 ≤ 7193636; omega⟩) (fun r2 X1 M1 K1 h2_ => ?_)
    obtain ⟨er, hX1, hM1, hK1⟩ := h2_
    subst X1 M1 K1
    refine g_istore C dL_law_1776 (L' := [(7, .int (r2)), (6, .int (r1)), (0, .ref b), (1, .ref (gad G 0)), (2, .ref (gad G 42)), (3, .ref (gad G 74)), (4, .ref (gad G 75)), (5, .int (nI (6 * c)))]) rfl (by rw [hL]; decide) ?_
    refine g_aload_n C dL_law_1778 4 rfl ?_
    refine g_callViW C dL_law_1779 (c_X11_thrown _ _ _ _ _ _ _ _ _) tw1394 tw1395 tw1396 tw16 tw1397 (rv_X11 C) rfl ⟨by decide +kernel, by decide +kernel, rfl⟩ ⟨rfl, rfl⟩ (by rw [hR]; exact ⟨Nat.le_of_ble_eq_true rfl, Nat.le_of_ble_eq_true rfl⟩) (Nat.le_of_ble_eq_true rfl) (by rw [hR]; exact ⟨by show k + 1 + 0 + 0 ≤ 604801; omega, by show n + 6 + 0 + 0 ≤ 7193636; omega⟩) (fun r3 X1 M1 K1 h3 => ?_)
    obtain ⟨er3, hX1, hM1, hK1⟩ := h3
    subst X1 M1 K1
    have e3 : r3 = xs_rec (M 53) (M 114 0) (M 102 0) (M 104 0) p1 := er3.trans (by rfl)
    refine g_iload C dL_law_1782 1 rfl ?_
    refine g_icmp_eq C dL_law_1784 (tgt := 1789) (by decide) (fun q => ?_) (fun q => absurd (e3.trans (hcd.symm.trans hr1.symm)) q)
    refine g_iload C dL_law_1789 1 rfl ?_
    refine g_if_ne C dL_law_1791 (tgt := 1806) (by decide) (fun q => ?_) (fun q => absurd q (fun u => hc (hr1.symm.trans u)))
    refine g_goto C dL_law_1806 (tgt := 2415) (by decide) ?_
    exact g_sub [2, 3, 4, 5, 6, 7] rfl (kk _ _ _ _ _ _ _ _ _ _ (I.no _) ⟨by show k + 1 + 0 + 0 ≤ 100 + 2 * (c + 1) + (K.2.1 4 + K.2.1 5); omega, by show n + 6 + 0 + 0 ≤ 2000 + 520 * (c + 1) + (K.2.1 6 + K.2.1 7); omega⟩)

set_option maxHeartbeats 1000000 in
set_option maxRecDepth 100000 in
theorem lc_scrub {G : MC} {b Ln c : Nat} {xs : Nat → Int32} {v z z5 z8 zs : Nat} {X M : XF} {K : KF} {k n : Nat} (E : LawG G b Ln xs) (hcL : 6 * c + 6 ≤ Ln) (I : Inv c v z z5 z8 zs X M K) (hm : rmO c K k n) (kk : LwS G b c) : GH G (WX G X M K) [(0, .ref b), (1, .ref (gad G 0)), (2, .ref (gad G 42)), (3, .ref (gad G 74)), (4, .ref (gad G 75)), (5, .int (nI (6 * c)))] k n 1809 [] := by
  obtain ⟨C, hst, hN, hX, hb, hbA, hLn, hR, hL⟩ := E
  have R := I.rel
  have hc5 : c < 512 := by omega
  have hnum := I.num (by omega)
  have hlen := I.len (by omega)
  obtain ⟨hm1, hm2⟩ := hm
  have hk2 := I.k2
  have hzk := I.zk
  have hsN := I.sN
  have hI := iv_scrub I hc5
  have f0 : (kLs (kLs K 0 v (sb_A X).2) 1 v (ms_A M).2).2.1 0 = (kLs K 0 v (sb_A X).2).2.1 0 ∧ (kLs (kLs K 0 v (sb_A X).2) 1 v (ms_A M).2).2.1 4 = (kLs K 0 v (sb_A X).2).2.1 4 ∧ (kLs (kLs K 0 v (sb_A X).2) 1 v (ms_A M).2).2.1 6 = (kLs K 0 v (sb_A X).2).2.1 6 := sd_n (w := 0) (K := (kLs K 0 v (sb_A X).2)) (sd_ls10 v _ _)
  have f1 : (kLs K 0 v (sb_A X).2).2.1 1 = K.2.1 1 ∧ (kLs K 0 v (sb_A X).2).2.1 5 = K.2.1 5 ∧ (kLs K 0 v (sb_A X).2).2.1 7 = K.2.1 7 := sd_n (w := 1) (sd_ls01 v _ K)
  have l0 : K.2.1 0 ≤ (kLs K 0 v (sb_A X).2).2.1 0 ∧ K.2.1 4 ≤ (kLs K 0 v (sb_A X).2).2.1 4 ∧ K.2.1 6 ≤ (kLs K 0 v (sb_A X).2).2.1 6 := kLs_le0 v _ K
  have l1 : (kLs K 0 v (sb_A X).2).2.1 1 ≤ (kLs (kLs K 0 v (sb_A X).2) 1 v (ms_A M).2).2.1 1 ∧ (kLs K 0 v (sb_A X).2).2.1 5 ≤ (kLs (kLs K 0 v (sb_A X).2) 1 v (ms_A M).2).2.1 5 ∧ (kLs K 0 v (sb_A X).2).2.1 7 ≤ (kLs (kLs K 0 v (sb_A X).2) 1 v (ms_A M).2).2.1 7 := kLs_le1 v _ (kLs K 0 v (sb_A X).2)
  have nP := hI.2.num (by omega)
  have hcapX : (kLs K 0 v (sb_A X).2).2.1 0 < 2 ^ 26 := by omega
  have h161 : 16 ≤ (kLs K 0 v (sb_A X).2).2.1 1 := by omega
  have hcapM : (kLs (kLs K 0 v (sb_A X).2) 1 v (ms_A M).2).2.1 1 < 2 ^ 26 := by omega
  refine g_aload_n C dL_law_1809 1 rfl ?_
  refine g_callViW C dL_law_1810 (c_X10_scrub _ _ _ _ _ _ _ _ _ _ (by have := R.lv; omega) R.x1 hnum.1.1 hcapX) tw358 tw359 tw360 tw1 tw361 (rv_X10 C) rfl ⟨by decide +kernel, by decide +kernel, rfl⟩ ⟨rfl, rfl⟩ (by rw [hR]; exact ⟨Nat.le_of_ble_eq_true rfl, Nat.le_of_ble_eq_true rfl⟩) (Nat.le_of_ble_eq_true rfl) (by rw [hR]; exact ⟨by show k + ((kLs K 0 v (sb_A X).2).2.1 4 - K.2.1 4) ≤ 604801; omega, by show n + ((kLs K 0 v (sb_A X).2).2.1 6 - K.2.1 6) ≤ 7193636; omega⟩) (fun r1 X1 M1 K1 h2_ => ?_)
  obtain ⟨er1, hX1, hM1, hK1⟩ := h2_
  subst X1 M1 K1
  refine g_aload_n C dL_law_1813 2 rfl ?_
  refine g_callViW C dL_law_1814 (c_X11_scrub _ _ _ _ _ _ _ _ _ _ (by have := R.lv; omega) R.m1 h161 hcapM) tw1641 tw1642 tw1643 tw16 tw1644 (rv_X11 C) rfl ⟨by decide +kernel, by decide +kernel, rfl⟩ ⟨rfl, rfl⟩ (by rw [hR]; exact ⟨Nat.le_of_ble_eq_true rfl, Nat.le_of_ble_eq_true rfl⟩) (Nat.le_of_ble_eq_true rfl) (by rw [hR]; exact ⟨by show k + ((kLs K 0 v (sb_A X).2).2.1 4 - K.2.1 4) + ((kLs (kLs K 0 v (sb_A X).2) 1 v (ms_A M).2).2.1 5 - (kLs K 0 v (sb_A X).2).2.1 5) ≤ 604801; omega, by show n + ((kLs K 0 v (sb_A X).2).2.1 6 - K.2.1 6) + ((kLs (kLs K 0 v (sb_A X).2) 1 v (ms_A M).2).2.1 7 - (kLs K 0 v (sb_A X).2).2.1 7) ≤ 7193636; omega⟩) (fun r2 X1 M1 K1 h2_ => ?_)
  obtain ⟨er, hX1, hM1, hK1⟩ := h2_
  subst X1 M1 K1
  refine g_icmp_eq C dL_law_1817 (tgt := 2415) (by decide) (fun q => ?_) (fun q => absurd (er1.trans ((hI.1).trans er.symm)) q)
  exact g_sub [0, 1, 2, 3, 4, 5] rfl (kk _ _ _ _ _ _ _ _ _ _ hI.2 ⟨by show k + ((kLs K 0 v (sb_A X).2).2.1 4 - K.2.1 4) + ((kLs (kLs K 0 v (sb_A X).2) 1 v (ms_A M).2).2.1 5 - (kLs K 0 v (sb_A X).2).2.1 5) ≤ 100 + 2 * (c + 1) + ((kLs (kLs K 0 v (sb_A X).2) 1 v (ms_A M).2).2.1 4 + (kLs (kLs K 0 v (sb_A X).2) 1 v (ms_A M).2).2.1 5); omega, by show n + ((kLs K 0 v (sb_A X).2).2.1 6 - K.2.1 6) + ((kLs (kLs K 0 v (sb_A X).2) 1 v (ms_A M).2).2.1 7 - (kLs K 0 v (sb_A X).2).2.1 7) ≤ 2000 + 520 * (c + 1) + ((kLs (kLs K 0 v (sb_A X).2) 1 v (ms_A M).2).2.1 6 + (kLs (kLs K 0 v (sb_A X).2) 1 v (ms_A M).2).2.1 7); omega⟩)

set_option maxHeartbeats 1000000 in
set_option maxRecDepth 100000 in
theorem lc_pass {G : MC} {b Ln c : Nat} {xs : Nat → Int32} {v z z5 z8 zs : Nat} {X M : XF} {K : KF} {k n : Nat} (E : LawG G b Ln xs) (hcL : 6 * c + 6 ≤ Ln) (I : Inv c v z z5 z8 zs X M K) (hm : rmO c K k n) (kk : LwS G b c) : GH G (WX G X M K) [(0, .ref b), (1, .ref (gad G 0)), (2, .ref (gad G 42)), (3, .ref (gad G 74)), (4, .ref (gad G 75)), (5, .int (nI (6 * c)))] k n 1822 [] := by
  obtain ⟨C, hst, hN, hX, hb, hbA, hLn, hR, hL⟩ := E
  have R := I.rel
  have hc5 : c < 512 := by omega
  have hnum := I.num (by omega)
  have hlen := I.len (by omega)
  obtain ⟨hm1, hm2⟩ := hm
  have hk2 := I.k2
  have hzk := I.zk
  have hsN := I.sN
  obtain ⟨p1, e1⟩ : ∃ p, xs (6 * c + 1) = p := ⟨_, rfl⟩
  have hcd : xk_pass (X 101 0) p1 = xs_pass (M 101 0) p1 := by rw [R.x1, R.m1]; exact cd_pass _ _
  by_cases hc : xk_pass (X 101 0) p1 = 0
  · have hx : xs_pass (M 101 0) p1 = 0 := hcd.symm.trans hc
    have hI := iv_pass I hc5 p1.toNatClampNeg (pass_hi R.lv (by rw [← R.x1]; exact hc)) (nI (v + p1.toNatClampNeg) : Int32).toInt64
    have f0 : (gs_P z zs z5 z8 v (si M 100 0) (kO (ps_K z z5 z8 v X K p1.toNatClampNeg) (nI (v + p1.toNatClampNeg) : Int32).toInt64) p1.toNatClampNeg).2.2.1 0 = (ps_K z z5 z8 v X K p1.toNatClampNeg).2.1 0 ∧ (gs_P z zs z5 z8 v (si M 100 0) (kO (ps_K z z5 z8 v X K p1.toNatClampNeg) (nI (v + p1.toNatClampNeg) : Int32).toInt64) p1.toNatClampNeg).2.2.1 4 = (ps_K z z5 z8 v X K p1.toNatClampNeg).2.1 4 ∧ (gs_P z zs z5 z8 v (si M 100 0) (kO (ps_K z z5 z8 v X K p1.toNatClampNeg) (nI (v + p1.toNatClampNeg) : Int32).toInt64) p1.toNatClampNeg).2.2.1 6 = (ps_K z z5 z8 v X K p1.toNatClampNeg).2.1 6 := sd_n (w := 0) (K := (kO (ps_K z z5 z8 v X K p1.toNatClampNeg) (nI (v + p1.toNatClampNeg) : Int32).toInt64)) (gs_s0 z zs z5 z8 v (si M 100 0) (kO (ps_K z z5 z8 v X K p1.toNatClampNeg) (nI (v + p1.toNatClampNeg) : Int32).toInt64) p1.toNatClampNeg).1
    have f1 : (ps_K z z5 z8 v X K p1.toNatClampNeg).2.1 1 = K.2.1 1 ∧ (ps_K z z5 z8 v X K p1.toNatClampNeg).2.1 5 = K.2.1 5 ∧ (ps_K z z5 z8 v X K p1.toNatClampNeg).2.1 7 = K.2.1 7 := sd_n (w := 1) (ps_s1 z z5 z8 v X K p1.toNatClampNeg).1
    have l0 : K.2.1 0 ≤ (ps_K z z5 z8 v X K p1.toNatClampNeg).2.1 0 ∧ K.2.1 4 ≤ (ps_K z z5 z8 v X K p1.toNatClampNeg).2.1 4 ∧ K.2.1 6 ≤ (ps_K z z5 z8 v X K p1.toNatClampNeg).2.1 6 := (by have q := ps_le z z5 z8 v X K 0 p1.toNatClampNeg; rw [Nat.zero_add] at q; exact q)
    have l1 : (ps_K z z5 z8 v X K p1.toNatClampNeg).2.1 1 ≤ (gs_P z zs z5 z8 v (si M 100 0) (kO (ps_K z z5 z8 v X K p1.toNatClampNeg) (nI (v + p1.toNatClampNeg) : Int32).toInt64) p1.toNatClampNeg).2.2.1 1 ∧ (ps_K z z5 z8 v X K p1.toNatClampNeg).2.1 5 ≤ (gs_P z zs z5 z8 v (si M 100 0) (kO (ps_K z z5 z8 v X K p1.toNatClampNeg) (nI (v + p1.toNatClampNeg) : Int32).toInt64) p1.toNatClampNeg).2.2.1 5 ∧ (ps_K z z5 z8 v X K p1.toNatClampNeg).2.1 7 ≤ (gs_P z zs z5 z8 v (si M 100 0) (kO (ps_K z z5 z8 v X K p1.toNatClampNeg) (nI (v + p1.toNatClampNeg) : Int32).toInt64) p1.toNatClampNeg).2.2.1 7 := (by have q := gs_le z zs z5 z8 v (si M 100 0) (kO (ps_K z z5 z8 v X K p1.toNatClampNeg) (nI (v + p1.toNatClampNeg) : Int32).toInt64) 0 p1.toNatClampNeg; rw [Nat.zero_add] at q; exact q)
    have nP := hI.num (by omega)
    have hcapX : (ps_K z z5 z8 v X K p1.toNatClampNeg).2.1 0 < 2 ^ 26 := by omega
    have h161 : 16 ≤ (ps_K z z5 z8 v X K p1.toNatClampNeg).2.1 1 := by omega
    have hcapM : (gs_P z zs z5 z8 v (si M 100 0) (kO (ps_K z z5 z8 v X K p1.toNatClampNeg) (nI (v + p1.toNatClampNeg) : Int32).toInt64) p1.toNatClampNeg).2.2.1 1 < 2 ^ 26 := by omega
    have t5 : (kO (ps_K z z5 z8 v X K p1.toNatClampNeg) (nI (v + p1.toNatClampNeg) : Int32).toInt64).2.1 5 = (ps_K z z5 z8 v X K p1.toNatClampNeg).2.1 5 := rfl
    have t7 : (kO (ps_K z z5 z8 v X K p1.toNatClampNeg) (nI (v + p1.toNatClampNeg) : Int32).toInt64).2.1 7 = (ps_K z z5 z8 v X K p1.toNatClampNeg).2.1 7 := rfl
    have e2 : (ps_K z z5 z8 v X K p1.toNatClampNeg).2.1 2 = K.2.1 2 := rs_2 (ps_s1 z z5 z8 v X K p1.toNatClampNeg).2
    have hzk : zs ≤ (ps_K z z5 z8 v X K p1.toNatClampNeg).2.1 2 := by rw [e2]; exact I.zk
    have hk2 : (ps_K z z5 z8 v X K p1.toNatClampNeg).2.1 2 < 2 ^ 31 := by rw [e2]; exact I.k2
    refine g_aload_n C dL_law_1822 1 rfl ?_
    refine g_aload_n C dL_law_1823 0 rfl ?_
    refine g_iload C dL_law_1824 5 rfl ?_
    refine g_iconst C dL_law_1826 (v := 1) (by decide) ?_
    refine g_iadd C dL_law_1827 ?_
    refine g_topi (y := nI (6 * c + 1)) (nI_add (6 * c) 1) ?_
    refine g_scr C hX hb hbA (j := 6 * c + 1) (by omega) (by omega) dL_law_1828 ?_
    refine g_topi e1 ?_
    refine g_aload_n C dL_law_1829 3 rfl ?_
    refine g_callH C hN (c_L_pass _ _ _ _ _ _ _ _ _ _ _ _ _ _ R.okS R.l6 R.l5 R.l8 R.lv hnum.1.1 hcapX hst) tw1027 tw1028 tw0 tw1029 rfl ⟨by decide +kernel, by decide +kernel, rfl⟩ ⟨rfl, rfl⟩ (by rw [hR]; exact ⟨Nat.le_of_ble_eq_true rfl, Nat.le_of_ble_eq_true rfl⟩) (Nat.le_of_ble_eq_true rfl) dL_law_1830 (by rw [hR]; exact ⟨by show k + ((ps_K z z5 z8 v X K p1.toNatClampNeg).2.1 4 - K.2.1 4 + 1) ≤ 604801; omega, by show n + ((ps_K z z5 z8 v X K p1.toNatClampNeg).2.1 6 - K.2.1 6 + 6) ≤ 7193636; omega⟩) (fun r1 X1 M1 K1 h1_ => ?_)
    obtain ⟨-, rfl, hX1, hM1, hK1⟩ := h1_.resolve_right (fun q => q.1 hc)
    subst X1 M1 K1
    refine g_istore C dL_law_1833 (L' := [(6, .int (0)), (0, .ref b), (1, .ref (gad G 0)), (2, .ref (gad G 42)), (3, .ref (gad G 74)), (4, .ref (gad G 75)), (5, .int (nI (6 * c)))]) rfl (by rw [hL]; decide) ?_
    refine g_aload_n C dL_law_1835 3 rfl ?_
    refine g_aload_n C dL_law_1836 1 rfl ?_
    refine g_iload C dL_law_1837 6 rfl ?_
    refine g_iconst C dL_law_1839 (v := 1) (by decide) ?_
    refine g_iadd C dL_law_1840 ?_
    refine g_topi (y := nI (6 * c + 1)) (nI_add (6 * c) 1) ?_
    refine g_scr C hX hb hbA (j := 6 * c + 1) (by omega) (by omega) dL_law_1841 ?_
    refine g_topi e1 ?_
    refine g_callViW C dL_law_1842 (c_X11_pass _ _ _ _ _ _ _ _ _ _ _ _ _ _ _ R.okM R.l6 R.l5 R.l8 hzk hk2 R.lv h161 hcapM) tw1649 tw1650 tw1651 tw16 tw1652 (rv_X11 C) rfl ⟨by decide +kernel, by decide +kernel, rfl⟩ ⟨rfl, rfl⟩ (by rw [hR]; exact ⟨Nat.le_of_ble_eq_true rfl, Nat.le_of_ble_eq_true rfl⟩) (Nat.le_of_ble_eq_true rfl) (by rw [hR]; exact ⟨by show k + ((ps_K z z5 z8 v X K p1.toNatClampNeg).2.1 4 - K.2.1 4 + 1) + ((gs_P z zs z5 z8 v (si M 100 0) (kO (ps_K z z5 z8 v X K p1.toNatClampNeg) (nI (v + p1.toNatClampNeg) : Int32).toInt64) p1.toNatClampNeg).2.2.1 5 - (kO (ps_K z z5 z8 v X K p1.toNatClampNeg) (nI (v + p1.toNatClampNeg) : Int32).toInt64).2.1 5) ≤ 604801; omega, by show n + ((ps_K z z5 z8 v X K p1.toNatClampNeg).2.1 6 - K.2.1 6 + 6) + ((gs_P z zs z5 z8 v (si M 100 0) (kO (ps_K z z5 z8 v X K p1.toNatClampNeg) (nI (v + p1.toNatClampNeg) : Int32).toInt64) p1.toNatClampNeg).2.2.1 7 - (kO (ps_K z z5 z8 v X K p1.toNatClampNeg) (nI (v + p1.toNatClampNeg) : Int32).toInt64).2.1 7) ≤ 7193636; omega⟩) (fun r2 X1 M1 K1 h2_ => ?_)
    obtain ⟨er, hX1, hM1, hK1⟩ := h2_
    rw [if_pos hx] at er hM1 hK1
    subst X1 M1 K1
    have heq : (nI (v + p1.toNatClampNeg) : Int32) = r2 := (rfl).trans er.symm
    refine g_istore C dL_law_1845 (L' := [(7, .int (r2)), (6, .int (0)), (0, .ref b), (1, .ref (gad G 0)), (2, .ref (gad G 42)), (3, .ref (gad G 74)), (4, .ref (gad G 75)), (5, .int (nI (6 * c)))]) rfl (by rw [hL]; decide) ?_
    refine g_aload_n C dL_law_1847 4 rfl ?_
    refine g_callViW C dL_law_1848 (c_X11_thrown _ _ _ _ _ _ _ _ _) tw1394 tw1395 tw1396 tw16 tw1397 (rv_X11 C) rfl ⟨by decide +kernel, by decide +kernel, rfl⟩ ⟨rfl, rfl⟩ (by rw [hR]; exact ⟨Nat.le_of_ble_eq_true rfl, Nat.le_of_ble_eq_true rfl⟩) (Nat.le_of_ble_eq_true rfl) (by rw [hR]; exact ⟨by show k + ((ps_K z z5 z8 v X K p1.toNatClampNeg).2.1 4 - K.2.1 4 + 1) + ((gs_P z zs z5 z8 v (si M 100 0) (kO (ps_K z z5 z8 v X K p1.toNatClampNeg) (nI (v + p1.toNatClampNeg) : Int32).toInt64) p1.toNatClampNeg).2.2.1 5 - (kO (ps_K z z5 z8 v X K p1.toNatClampNeg) (nI (v + p1.toNatClampNeg) : Int32).toInt64).2.1 5) + 0 ≤ 604801; omega, by show n + ((ps_K z z5 z8 v X K p1.toNatClampNeg).2.1 6 - K.2.1 6 + 6) + ((gs_P z zs z5 z8 v (si M 100 0) (kO (ps_K z z5 z8 v X K p1.toNatClampNeg) (nI (v + p1.toNatClampNeg) : Int32).toInt64) p1.toNatClampNeg).2.2.1 7 - (kO (ps_K z z5 z8 v X K p1.toNatClampNeg) (nI (v + p1.toNatClampNeg) : Int32).toInt64).2.1 7) + 0 ≤ 7193636; omega⟩) (fun r3 X1 M1 K1 h3 => ?_)
    obtain ⟨er3, hX1, hM1, hK1⟩ := h3
    subst X1 M1 K1
    have e3 : r3 = 0 := er3.trans (congrFun (gs_100 z zs z5 z8 v (si M 100 0) (kO (ps_K z z5 z8 v X K p1.toNatClampNeg) (nI (v + p1.toNatClampNeg) : Int32).toInt64) p1.toNatClampNeg) 0)
    refine g_iload C dL_law_1851 1 rfl ?_
    refine g_icmp_eq C dL_law_1853 (tgt := 1858) (by decide) (fun q => ?_) (fun q => absurd e3 q)
    refine g_iload C dL_law_1858 1 rfl ?_
    refine g_if_ne C dL_law_1860 (tgt := 1875) (by decide) (fun q => absurd q (by decide)) (fun q => ?_)
    refine g_aload_n C dL_law_1863 5 rfl ?_
    refine g_iconst C dL_law_1864 (v := 0) (by decide) ?_
    refine al_74 C dL_law_1865 ?_
    refine g_topl (y := (nI (v + p1.toNatClampNeg) : Int32).toInt64) (by rw [rs_o (gs_s0 z zs z5 z8 v (si M 100 0) (kO (ps_K z z5 z8 v X K p1.toNatClampNeg) (nI (v + p1.toNatClampNeg) : Int32).toInt64) p1.toNatClampNeg).2]; exact kO_at _ _) ?_
    refine g_iload C dL_law_1866 0 rfl ?_
    refine g_i2l C dL_law_1868 ?_
    refine g_lcmpe C (by rw [heq]) dL_law_1869 ?_
    refine g_if_eq C dL_law_1870 (tgt := 1875) (by decide) (fun q => ?_) (fun q => absurd (by decide) q)
    refine g_goto C dL_law_1875 (tgt := 2415) (by decide) ?_
    exact g_sub [2, 3, 4, 5, 6, 7] rfl (kk _ _ _ _ _ _ _ _ _ _ hI ⟨by show k + ((ps_K z z5 z8 v X K p1.toNatClampNeg).2.1 4 - K.2.1 4 + 1) + ((gs_P z zs z5 z8 v (si M 100 0) (kO (ps_K z z5 z8 v X K p1.toNatClampNeg) (nI (v + p1.toNatClampNeg) : Int32).toInt64) p1.toNatClampNeg).2.2.1 5 - (kO (ps_K z z5 z8 v X K p1.toNatClampNeg) (nI (v + p1.toNatClampNeg) : Int32).toInt64).2.1 5) + 0 ≤ 100 + 2 * (c + 1) + ((gs_P z zs z5 z8 v (si M 100 0) (kO (ps_K z z5 z8 v X K p1.toNatClampNeg) (nI (v + p1.toNatClampNeg) : Int32).toInt64) p1.toNatClampNeg).2.2.1 4 + (gs_P z zs z5 z8 v (si M 100 0) (kO (ps_K z z5 z8 v X K p1.toNatClampNeg) (nI (v + p1.toNatClampNeg) : Int32).toInt64) p1.toNatClampNeg).2.2.1 5); omega, by show n + ((ps_K z z5 z8 v X K p1.toNatClampNeg).2.1 6 - K.2.1 6 + 6) + ((gs_P z zs z5 z8 v (si M 100 0) (kO (ps_K z z5 z8 v X K p1.toNatClampNeg) (nI (v + p1.toNatClampNeg) : Int32).toInt64) p1.toNatClampNeg).2.2.1 7 - (kO (ps_K z z5 z8 v X K p1.toNatClampNeg) (nI (v + p1.toNatClampNeg) : Int32).toInt64).2.1 7) + 0 ≤ 2000 + 520 * (c + 1) + ((gs_P z zs z5 z8 v (si M 100 0) (kO (ps_K z z5 z8 v X K p1.toNatClampNeg) (nI (v + p1.toNatClampNeg) : Int32).toInt64) p1.toNatClampNeg).2.2.1 6 + (gs_P z zs z5 z8 v (si M 100 0) (kO (ps_K z z5 z8 v X K p1.toNatClampNeg) (nI (v + p1.toNatClampNeg) : Int32).toInt64) p1.toNatClampNeg).2.2.1 7); omega⟩)
  · have hx : ¬ xs_pass (M 101 0) p1 = 0 := fun q => hc (hcd.trans q)
    refine g_aload_n C dL_law_1822 1 rfl ?_
    refine g_aload_n C dL_law_1823 0 rfl ?_
    refine g_iload C dL_law_1824 5 rfl ?_
    refine g_iconst C dL_law_1826 (v := 1) (by decide) ?_
    refine g_iadd C dL_law_1827 ?_
    refine g_topi (y := nI (6 * c + 1)) (nI_add (6 * c) 1) ?_
    refine g_scr C hX hb hbA (j := 6 * c + 1) (by omega) (by omega) dL_law_1828 ?_
    refine g_topi e1 ?_
    refine g_aload_n C dL_law_1829 3 rfl ?_
    refine g_callH C hN (c_L_passX _ _ _ _ _ _ _ _ _ _ hc hst) tw1027 tw1028 tw0 tw1029 rfl ⟨by decide +kernel, by decide +kernel, rfl⟩ ⟨rfl, rfl⟩ (by rw [hR]; exact ⟨Nat.le_of_ble_eq_true rfl, Nat.le_of_ble_eq_true rfl⟩) (Nat.le_of_ble_eq_true rfl) dL_law_1830 (by rw [hR]; exact ⟨by show k + 1 ≤ 604801; omega, by show n + 6 ≤ 7193636; omega⟩) (fun r1 X1 M1 K1 h1_ => ?_)
    obtain ⟨-, hr1, hX1, hM1, hK1⟩ := h1_.resolve_left (fun q => hc q.1)
    subst X1 M1 K1
    refine g_istore C dL_law_1833 (L' := [(6, .int (r1)), (0, .ref b), (1, .ref (gad G 0)), (2, .ref (gad G 42)), (3, .ref (gad G 74)), (4, .ref (gad G 75)), (5, .int (nI (6 * c)))]) rfl (by rw [hL]; decide) ?_
    refine g_aload_n C dL_law_1835 3 rfl ?_
    refine g_aload_n C dL_law_1836 1 rfl ?_
    refine g_iload C dL_law_1837 6 rfl ?_
    refine g_iconst C dL_law_1839 (v := 1) (by decide) ?_
    refine g_iadd C dL_law_1840 ?_
    refine g_topi (y := nI (6 * c + 1)) (nI_add (6 * c) 1) ?_
    refine g_scr C hX hb hbA (j := 6 * c + 1) (by omega) (by omega) dL_law_1841 ?_
    refine g_topi e1 ?_
    refine g_callViW C dL_law_1842 (c_X11_passX _ _ _ _ _ _ _ _ _ _ hx) tw1649 tw1650 tw1651 tw16 tw1652 (rv_X11 C) rfl ⟨by decide +kernel, by decide +kernel, rfl⟩ ⟨rfl, rfl⟩ (by rw [hR]; exact ⟨Nat.le_of_ble_eq_true rfl, Nat.le_of_ble_eq_true rfl⟩) (Nat.le_of_ble_eq_true rfl) (by rw [hR]; exact ⟨by show k + 1 + 0 ≤ 604801; omega, by show n + 6 + 0 ≤ 7193636; omega⟩) (fun r2 X1 M1 K1 h2_ => ?_)
    obtain ⟨er, hX1, hM1, hK1⟩ := h2_
    subst X1 M1 K1
    refine g_istore C dL_law_1845 (L' := [(7, .int (r2)), (6, .int (r1)), (0, .ref b), (1, .ref (gad G 0)), (2, .ref (gad G 42)), (3, .ref (gad G 74)), (4, .ref (gad G 75)), (5, .int (nI (6 * c)))]) rfl (by rw [hL]; decide) ?_
    refine g_aload_n C dL_law_1847 4 rfl ?_
    refine g_callViW C dL_law_1848 (c_X11_thrown _ _ _ _ _ _ _ _ _) tw1394 tw1395 tw1396 tw16 tw1397 (rv_X11 C) rfl ⟨by decide +kernel, by decide +kernel, rfl⟩ ⟨rfl, rfl⟩ (by rw [hR]; exact ⟨Nat.le_of_ble_eq_true rfl, Nat.le_of_ble_eq_true rfl⟩) (Nat.le_of_ble_eq_true rfl) (by rw [hR]; exact ⟨by show k + 1 + 0 + 0 ≤ 604801; omega, by show n + 6 + 0 + 0 ≤ 7193636; omega⟩) (fun r3 X1 M1 K1 h3 => ?_)
    obtain ⟨er3, hX1, hM1, hK1⟩ := h3
    subst X1 M1 K1
    have e3 : r3 = xs_pass (M 101 0) p1 := er3.trans (by rfl)
    refine g_iload C dL_law_1851 1 rfl ?_
    refine g_icmp_eq C dL_law_1853 (tgt := 1858) (by decide) (fun q => ?_) (fun q => absurd (e3.trans (hcd.symm.trans hr1.symm)) q)
    refine g_iload C dL_law_1858 1 rfl ?_
    refine g_if_ne C dL_law_1860 (tgt := 1875) (by decide) (fun q => ?_) (fun q => absurd q (fun u => hc (hr1.symm.trans u)))
    refine g_goto C dL_law_1875 (tgt := 2415) (by decide) ?_
    exact g_sub [2, 3, 4, 5, 6, 7] rfl (kk _ _ _ _ _ _ _ _ _ _ (I.no _) ⟨by show k + 1 + 0 + 0 ≤ 100 + 2 * (c + 1) + (K.2.1 4 + K.2.1 5); omega, by show n + 6 + 0 + 0 ≤ 2000 + 520 * (c + 1) + (K.2.1 6 + K.2.1 7); omega⟩)

set_option maxHeartbeats 1000000 in
set_option maxRecDepth 100000 in
theorem lc_track {G : MC} {b Ln c : Nat} {xs : Nat → Int32} {v z z5 z8 zs : Nat} {X M : XF} {K : KF} {k n : Nat} (E : LawG G b Ln xs) (hcL : 6 * c + 6 ≤ Ln) (I : Inv c v z z5 z8 zs X M K) (hm : rmO c K k n) (kk : LwS G b c) : GH G (WX G X M K) [(0, .ref b), (1, .ref (gad G 0)), (2, .ref (gad G 42)), (3, .ref (gad G 74)), (4, .ref (gad G 75)), (5, .int (nI (6 * c)))] k n 1878 [] := by
  obtain ⟨C, hst, hN, hX, hb, hbA, hLn, hR, hL⟩ := E
  have R := I.rel
  have hc5 : c < 512 := by omega
  have hnum := I.num (by omega)
  have hlen := I.len (by omega)
  obtain ⟨hm1, hm2⟩ := hm
  have hk2 := I.k2
  have hzk := I.zk
  have hsN := I.sN
  obtain ⟨p1, e1⟩ : ∃ p, xs (6 * c + 1) = p := ⟨_, rfl⟩
  obtain ⟨p2, e2⟩ : ∃ p, xs (6 * c + 2) = p := ⟨_, rfl⟩
  have hcd : xk_track p1 p2 = xs_track p1 p2 := by exact cd_track _ _
  by_cases hc : xk_track p1 p2 = 0
  · have hx : xs_track p1 p2 = 0 := hcd.symm.trans hc
    refine g_aload_n C dL_law_1878 1 rfl ?_
    refine g_aload_n C dL_law_1879 0 rfl ?_
    refine g_iload C dL_law_1880 5 rfl ?_
    refine g_iconst C dL_law_1882 (v := 1) (by decide) ?_
    refine g_iadd C dL_law_1883 ?_
    refine g_topi (y := nI (6 * c + 1)) (nI_add (6 * c) 1) ?_
    refine g_scr C hX hb hbA (j := 6 * c + 1) (by omega) (by omega) dL_law_1884 ?_
    refine g_topi e1 ?_
    refine g_aload_n C dL_law_1885 0 rfl ?_
    refine g_iload C dL_law_1886 5 rfl ?_
    refine g_iconst C dL_law_1888 (v := 2) (by decide) ?_
    refine g_iadd C dL_law_1889 ?_
    refine g_topi (y := nI (6 * c + 2)) (nI_add (6 * c) 2) ?_
    refine g_scr C hX hb hbA (j := 6 * c + 2) (by omega) (by omega) dL_law_1890 ?_
    refine g_topi e2 ?_
    refine g_aload_n C dL_law_1891 3 rfl ?_
    refine g_callH C hN (c_L_track _ _ _ _ _ _ _ _ _ _ _ hst) tw1128 tw1129 tw0 tw1130 rfl ⟨by decide +kernel, by decide +kernel, rfl⟩ ⟨rfl, rfl⟩ (by rw [hR]; exact ⟨Nat.le_of_ble_eq_true rfl, Nat.le_of_ble_eq_true rfl⟩) (Nat.le_of_ble_eq_true rfl) dL_law_1892 (by rw [hR]; exact ⟨by show k + 1 ≤ 604801; omega, by show n + 6 ≤ 7193636; omega⟩) (fun r1 X1 M1 K1 h1_ => ?_)
    obtain ⟨-, rfl, hX1, hM1, hK1⟩ := h1_.resolve_right (fun q => q.1 hc)
    subst X1 M1 K1
    refine g_istore C dL_law_1895 (L' := [(6, .int (0)), (0, .ref b), (1, .ref (gad G 0)), (2, .ref (gad G 42)), (3, .ref (gad G 74)), (4, .ref (gad G 75)), (5, .int (nI (6 * c)))]) rfl (by rw [hL]; decide) ?_
    refine g_aload_n C dL_law_1897 3 rfl ?_
    refine g_aload_n C dL_law_1898 1 rfl ?_
    refine g_iload C dL_law_1899 6 rfl ?_
    refine g_iconst C dL_law_1901 (v := 1) (by decide) ?_
    refine g_iadd C dL_law_1902 ?_
    refine g_topi (y := nI (6 * c + 1)) (nI_add (6 * c) 1) ?_
    refine g_scr C hX hb hbA (j := 6 * c + 1) (by omega) (by omega) dL_law_1903 ?_
    refine g_topi e1 ?_
    refine g_aload_n C dL_law_1904 1 rfl ?_
    refine g_iload C dL_law_1905 6 rfl ?_
    refine g_iconst C dL_law_1907 (v := 2) (by decide) ?_
    refine g_iadd C dL_law_1908 ?_
    refine g_topi (y := nI (6 * c + 2)) (nI_add (6 * c) 2) ?_
    refine g_scr C hX hb hbA (j := 6 * c + 2) (by omega) (by omega) dL_law_1909 ?_
    refine g_topi e2 ?_
    refine g_callViW C dL_law_1910 (c_X11_track _ _ _ _ _ _ _ _ _ _ _) tw1680 tw1681 tw1682 tw16 tw1683 (rv_X11 C) rfl ⟨by decide +kernel, by decide +kernel, rfl⟩ ⟨rfl, rfl⟩ (by rw [hR]; exact ⟨Nat.le_of_ble_eq_true rfl, Nat.le_of_ble_eq_true rfl⟩) (Nat.le_of_ble_eq_true rfl) (by rw [hR]; exact ⟨by show k + 1 + 0 ≤ 604801; omega, by show n + 6 + 0 ≤ 7193636; omega⟩) (fun r2 X1 M1 K1 h2_ => ?_)
    obtain ⟨er, hX1, hM1, hK1⟩ := h2_
    rw [if_pos hx] at er hM1
    subst X1 M1 K1
    have heq : (X 37 p1.toNatClampNeg : Int32) = r2 := ((o_track R p1 p2).1).trans er.symm
    refine g_istore C dL_law_1913 (L' := [(7, .int (r2)), (6, .int (0)), (0, .ref b), (1, .ref (gad G 0)), (2, .ref (gad G 42)), (3, .ref (gad G 74)), (4, .ref (gad G 75)), (5, .int (nI (6 * c)))]) rfl (by rw [hL]; decide) ?_
    refine g_aload_n C dL_law_1915 4 rfl ?_
    refine g_callViW C dL_law_1916 (c_X11_thrown _ _ _ _ _ _ _ _ _) tw1394 tw1395 tw1396 tw16 tw1397 (rv_X11 C) rfl ⟨by decide +kernel, by decide +kernel, rfl⟩ ⟨rfl, rfl⟩ (by rw [hR]; exact ⟨Nat.le_of_ble_eq_true rfl, Nat.le_of_ble_eq_true rfl⟩) (Nat.le_of_ble_eq_true rfl) (by rw [hR]; exact ⟨by show k + 1 + 0 + 0 ≤ 604801; omega, by show n + 6 + 0 + 0 ≤ 7193636; omega⟩) (fun r3 X1 M1 K1 h3 => ?_)
    obtain ⟨er3, hX1, hM1, hK1⟩ := h3
    subst X1 M1 K1
    have e3 : r3 = 0 := er3.trans (by rfl)
    refine g_iload C dL_law_1919 1 rfl ?_
    refine g_icmp_eq C dL_law_1921 (tgt := 1926) (by decide) (fun q => ?_) (fun q => absurd e3 q)
    refine g_iload C dL_law_1926 1 rfl ?_
    refine g_if_ne C dL_law_1928 (tgt := 1943) (by decide) (fun q => absurd q (by decide)) (fun q => ?_)
    refine g_aload_n C dL_law_1931 5 rfl ?_
    refine g_iconst C dL_law_1932 (v := 0) (by decide) ?_
    refine al_74 C dL_law_1933 ?_
    refine g_topl (y := (X 37 p1.toNatClampNeg : Int32).toInt64) (kO_at _ _) ?_
    refine g_iload C dL_law_1934 0 rfl ?_
    refine g_i2l C dL_law_1936 ?_
    refine g_lcmpe C (by rw [heq]) dL_law_1937 ?_
    refine g_if_eq C dL_law_1938 (tgt := 1943) (by decide) (fun q => ?_) (fun q => absurd (by decide) q)
    refine g_goto C dL_law_1943 (tgt := 2415) (by decide) ?_
    exact g_sub [2, 3, 4, 5, 6, 7] rfl (kk _ _ _ _ _ _ _ _ _ _ (I.stay _ (o_track R p1 p2).2 rfl rfl rfl) ⟨by show k + 1 + 0 + 0 ≤ 100 + 2 * (c + 1) + (K.2.1 4 + K.2.1 5); omega, by show n + 6 + 0 + 0 ≤ 2000 + 520 * (c + 1) + (K.2.1 6 + K.2.1 7); omega⟩)
  · have hx : ¬ xs_track p1 p2 = 0 := fun q => hc (hcd.trans q)
    refine g_aload_n C dL_law_1878 1 rfl ?_
    refine g_aload_n C dL_law_1879 0 rfl ?_
    refine g_iload C dL_law_1880 5 rfl ?_
    refine g_iconst C dL_law_1882 (v := 1) (by decide) ?_
    refine g_iadd C dL_law_1883 ?_
    refine g_topi (y := nI (6 * c + 1)) (nI_add (6 * c) 1) ?_
    refine g_scr C hX hb hbA (j := 6 * c + 1) (by omega) (by omega) dL_law_1884 ?_
    refine g_topi e1 ?_
    refine g_aload_n C dL_law_1885 0 rfl ?_
    refine g_iload C dL_law_1886 5 rfl ?_
    refine g_iconst C dL_law_1888 (v := 2) (by decide) ?_
    refine g_iadd C dL_law_1889 ?_
    refine g_topi (y := nI (6 * c + 2)) (nI_add (6 * c) 2) ?_
    refine g_scr C hX hb hbA (j := 6 * c + 2) (by omega) (by omega) dL_law_1890 ?_
    refine g_topi e2 ?_
    refine g_aload_n C dL_law_1891 3 rfl ?_
    refine g_callH C hN (c_L_track _ _ _ _ _ _ _ _ _ _ _ hst) tw1128 tw1129 tw0 tw1130 rfl ⟨by decide +kernel, by decide +kernel, rfl⟩ ⟨rfl, rfl⟩ (by rw [hR]; exact ⟨Nat.le_of_ble_eq_true rfl, Nat.le_of_ble_eq_true rfl⟩) (Nat.le_of_ble_eq_true rfl) dL_law_1892 (by rw [hR]; exact ⟨by show k + 1 ≤ 604801; omega, by show n + 6 ≤ 7193636; omega⟩) (fun r1 X1 M1 K1 h1_ => ?_)
    obtain ⟨-, hr1, hX1, hM1, hK1⟩ := h1_.resolve_left (fun q => hc q.1)
    subst X1 M1 K1
    refine g_istore C dL_law_1895 (L' := [(6, .int (r1)), (0, .ref b), (1, .ref (gad G 0)), (2, .ref (gad G 42)), (3, .ref (gad G 74)), (4, .ref (gad G 75)), (5, .int (nI (6 * c)))]) rfl (by rw [hL]; decide) ?_
    refine g_aload_n C dL_law_1897 3 rfl ?_
    refine g_aload_n C dL_law_1898 1 rfl ?_
    refine g_iload C dL_law_1899 6 rfl ?_
    refine g_iconst C dL_law_1901 (v := 1) (by decide) ?_
    refine g_iadd C dL_law_1902 ?_
    refine g_topi (y := nI (6 * c + 1)) (nI_add (6 * c) 1) ?_
    refine g_scr C hX hb hbA (j := 6 * c + 1) (by omega) (by omega) dL_law_1903 ?_
    refine g_topi e1 ?_
    refine g_aload_n C dL_law_1904 1 rfl ?_
    refine g_iload C dL_law_1905 6 rfl ?_
    refine g_iconst C dL_law_1907 (v := 2) (by decide) ?_
    refine g_iadd C dL_law_1908 ?_
    refine g_topi (y := nI (6 * c + 2)) (nI_add (6 * c) 2) ?_
    refine g_scr C hX hb hbA (j := 6 * c + 2) (by omega) (by omega) dL_law_1909 ?_
    refine g_topi e2 ?_
    refine g_callViW C dL_law_1910 (c_X11_track _ _ _ _ _ _ _ _ _ _ _) tw1680 tw1681 tw1682 tw16 tw1683 (rv_X11 C) rfl ⟨by decide +kernel, by decide +kernel, rfl⟩ ⟨rfl, rfl⟩ (by rw [hR]; exact ⟨Nat.le_of_ble_eq_true rfl, Nat.le_of_ble_eq_true rfl⟩) (Nat.le_of_ble_eq_true rfl) (by rw [hR]; exact ⟨by show k + 1 + 0 ≤ 604801; omega, by show n + 6 + 0 ≤ 7193636; omega⟩) (fun r2 X1 M1 K1 h2_ => ?_)
    obtain ⟨er, hX1, hM1, hK1⟩ := h2_
    rw [if_neg hx] at er hM1
    subst X1 M1 K1
    refine g_istore C dL_law_1913 (L' := [(7, .int (r2)), (6, .int (r1)), (0, .ref b), (1, .ref (gad G 0)), (2, .ref (gad G 42)), (3, .ref (gad G 74)), (4, .ref (gad G 75)), (5, .int (nI (6 * c)))]) rfl (by rw [hL]; decide) ?_
    refine g_aload_n C dL_law_1915 4 rfl ?_
    refine g_callViW C dL_law_1916 (c_X11_thrown _ _ _ _ _ _ _ _ _) tw1394 tw1395 tw1396 tw16 tw1397 (rv_X11 C) rfl ⟨by decide +kernel, by decide +kernel, rfl⟩ ⟨rfl, rfl⟩ (by rw [hR]; exact ⟨Nat.le_of_ble_eq_true rfl, Nat.le_of_ble_eq_true rfl⟩) (Nat.le_of_ble_eq_true rfl) (by rw [hR]; exact ⟨by show k + 1 + 0 + 0 ≤ 604801; omega, by show n + 6 + 0 + 0 ≤ 7193636; omega⟩) (fun r3 X1 M1 K1 h3 => ?_)
    obtain ⟨er3, hX1, hM1, hK1⟩ := h3
    subst X1 M1 K1
    have e3 : r3 = xs_track p1 p2 := er3.trans (by rfl)
    refine g_iload C dL_law_1919 1 rfl ?_
    refine g_icmp_eq C dL_law_1921 (tgt := 1926) (by decide) (fun q => ?_) (fun q => absurd (e3.trans (hcd.symm.trans hr1.symm)) q)
    refine g_iload C dL_law_1926 1 rfl ?_
    refine g_if_ne C dL_law_1928 (tgt := 1943) (by decide) (fun q => ?_) (fun q => absurd q (fun u => hc (hr1.symm.trans u)))
    refine g_goto C dL_law_1943 (tgt := 2415) (by decide) ?_
    exact g_sub [2, 3, 4, 5, 6, 7] rfl (kk _ _ _ _ _ _ _ _ _ _ (I.no _) ⟨by show k + 1 + 0 + 0 ≤ 100 + 2 * (c + 1) + (K.2.1 4 + K.2.1 5); omega, by show n + 6 + 0 + 0 ≤ 2000 + 520 * (c + 1) + (K.2.1 6 + K.2.1 7); omega⟩)

set_option maxHeartbeats 1000000 in
set_option maxRecDepth 100000 in
theorem lc_state {G : MC} {b Ln c : Nat} {xs : Nat → Int32} {v z z5 z8 zs : Nat} {X M : XF} {K : KF} {k n : Nat} (E : LawG G b Ln xs) (hcL : 6 * c + 6 ≤ Ln) (I : Inv c v z z5 z8 zs X M K) (hm : rmO c K k n) (kk : LwS G b c) : GH G (WX G X M K) [(0, .ref b), (1, .ref (gad G 0)), (2, .ref (gad G 42)), (3, .ref (gad G 74)), (4, .ref (gad G 75)), (5, .int (nI (6 * c)))] k n 1946 [] := by
  obtain ⟨C, hst, hN, hX, hb, hbA, hLn, hR, hL⟩ := E
  have R := I.rel
  have hc5 : c < 512 := by omega
  have hnum := I.num (by omega)
  have hlen := I.len (by omega)
  obtain ⟨hm1, hm2⟩ := hm
  have hk2 := I.k2
  have hzk := I.zk
  have hsN := I.sN
  refine g_aload_n C dL_law_1946 1 rfl ?_
  refine g_callViW C dL_law_1947 (c_X10_state _ _ _ _ _ _ _ _ _ R.ch118) tw503 tw504 tw505 tw1 tw506 (rv_X10 C) rfl ⟨by decide +kernel, by decide +kernel, rfl⟩ ⟨rfl, rfl⟩ (by rw [hR]; exact ⟨Nat.le_of_ble_eq_true rfl, Nat.le_of_ble_eq_true rfl⟩) (Nat.le_of_ble_eq_true rfl) (by rw [hR]; exact ⟨by show k + 0 ≤ 604801; omega, by show n + 0 ≤ 7193636; omega⟩) (fun r1 X1 M1 K1 h2_ => ?_)
  obtain ⟨er1, hX1, hM1, hK1⟩ := h2_
  subst X1 M1 K1
  refine g_aload_n C dL_law_1950 2 rfl ?_
  refine g_callViW C dL_law_1951 (c_X11_state _ _ _ _ _ _ _ _ _ R.ch102) tw1686 tw1687 tw1688 tw16 tw1689 (rv_X11 C) rfl ⟨by decide +kernel, by decide +kernel, rfl⟩ ⟨rfl, rfl⟩ (by rw [hR]; exact ⟨Nat.le_of_ble_eq_true rfl, Nat.le_of_ble_eq_true rfl⟩) (Nat.le_of_ble_eq_true rfl) (by rw [hR]; exact ⟨by show k + 0 + 0 ≤ 604801; omega, by show n + 0 + 0 ≤ 7193636; omega⟩) (fun r2 X1 M1 K1 h2_ => ?_)
  obtain ⟨er, hX1, hM1, hK1⟩ := h2_
  subst X1 M1 K1
  refine g_icmp_eq C dL_law_1954 (tgt := 2415) (by decide) (fun q => ?_) (fun q => absurd (er1.trans ((R.st).trans er.symm)) q)
  exact g_sub [0, 1, 2, 3, 4, 5] rfl (kk _ _ _ _ _ _ _ _ _ _ (I.no 0) ⟨by show k + 0 + 0 ≤ 100 + 2 * (c + 1) + (K.2.1 4 + K.2.1 5); omega, by show n + 0 + 0 ≤ 2000 + 520 * (c + 1) + (K.2.1 6 + K.2.1 7); omega⟩)

set_option maxHeartbeats 1000000 in
set_option maxRecDepth 100000 in
theorem lc_count {G : MC} {b Ln c : Nat} {xs : Nat → Int32} {v z z5 z8 zs : Nat} {X M : XF} {K : KF} {k n : Nat} (E : LawG G b Ln xs) (hcL : 6 * c + 6 ≤ Ln) (I : Inv c v z z5 z8 zs X M K) (hm : rmO c K k n) (kk : LwS G b c) : GH G (WX G X M K) [(0, .ref b), (1, .ref (gad G 0)), (2, .ref (gad G 42)), (3, .ref (gad G 74)), (4, .ref (gad G 75)), (5, .int (nI (6 * c)))] k n 1959 [] := by
  obtain ⟨C, hst, hN, hX, hb, hbA, hLn, hR, hL⟩ := E
  have R := I.rel
  have hc5 : c < 512 := by omega
  have hnum := I.num (by omega)
  have hlen := I.len (by omega)
  obtain ⟨hm1, hm2⟩ := hm
  have hk2 := I.k2
  have hzk := I.zk
  have hsN := I.sN
  have hcd : xk_beg (X 118 0) = xs_beg (M 103 0) := by exact q_beg R
  by_cases hc : xk_beg (X 118 0) = 0
  · have hx : xs_beg (M 103 0) = 0 := hcd.symm.trans hc
    refine g_aload_n C dL_law_1959 1 rfl ?_
    refine g_aload_n C dL_law_1960 3 rfl ?_
    refine g_callH C hN (c_L_count _ _ _ _ _ _ _ _ _ hst) tw1135 tw1136 tw0 tw1137 rfl ⟨by decide +kernel, by decide +kernel, rfl⟩ ⟨rfl, rfl⟩ (by rw [hR]; exact ⟨Nat.le_of_ble_eq_true rfl, Nat.le_of_ble_eq_true rfl⟩) (Nat.le_of_ble_eq_true rfl) dL_law_1961 (by rw [hR]; exact ⟨by show k + 1 ≤ 604801; omega, by show n + 6 ≤ 7193636; omega⟩) (fun r1 X1 M1 K1 h1_ => ?_)
    obtain ⟨-, rfl, hX1, hM1, hK1⟩ := h1_.resolve_right (fun q => q.1 hc)
    subst X1 M1 K1
    refine g_istore C dL_law_1964 (L' := [(6, .int (0)), (0, .ref b), (1, .ref (gad G 0)), (2, .ref (gad G 42)), (3, .ref (gad G 74)), (4, .ref (gad G 75)), (5, .int (nI (6 * c)))]) rfl (by rw [hL]; decide) ?_
    refine g_aload_n C dL_law_1966 3 rfl ?_
    refine g_callViW C dL_law_1967 (c_X11_count _ _ _ _ _ _ _ _ _ ) tw1690 tw1691 tw1692 tw16 tw1693 (rv_X11 C) rfl ⟨by decide +kernel, by decide +kernel, rfl⟩ ⟨rfl, rfl⟩ (by rw [hR]; exact ⟨Nat.le_of_ble_eq_true rfl, Nat.le_of_ble_eq_true rfl⟩) (Nat.le_of_ble_eq_true rfl) (by rw [hR]; exact ⟨by show k + 1 + 0 ≤ 604801; omega, by show n + 6 + 0 ≤ 7193636; omega⟩) (fun r2 X1 M1 K1 h2_ => ?_)
    obtain ⟨er, hX1, hM1, hK1⟩ := h2_
    rw [if_pos hx] at er hM1
    subst X1 M1 K1
    have heq : (X 106 0 : Int32) = r2 := (R.c0.2.2.2.1).trans er.symm
    refine g_istore C dL_law_1970 (L' := [(7, .int (r2)), (6, .int (0)), (0, .ref b), (1, .ref (gad G 0)), (2, .ref (gad G 42)), (3, .ref (gad G 74)), (4, .ref (gad G 75)), (5, .int (nI (6 * c)))]) rfl (by rw [hL]; decide) ?_
    refine g_aload_n C dL_law_1972 4 rfl ?_
    refine g_callViW C dL_law_1973 (c_X11_thrown _ _ _ _ _ _ _ _ _) tw1394 tw1395 tw1396 tw16 tw1397 (rv_X11 C) rfl ⟨by decide +kernel, by decide +kernel, rfl⟩ ⟨rfl, rfl⟩ (by rw [hR]; exact ⟨Nat.le_of_ble_eq_true rfl, Nat.le_of_ble_eq_true rfl⟩) (Nat.le_of_ble_eq_true rfl) (by rw [hR]; exact ⟨by show k + 1 + 0 + 0 ≤ 604801; omega, by show n + 6 + 0 + 0 ≤ 7193636; omega⟩) (fun r3 X1 M1 K1 h3 => ?_)
    obtain ⟨er3, hX1, hM1, hK1⟩ := h3
    subst X1 M1 K1
    have e3 : r3 = 0 := er3.trans (by rfl)
    refine g_iload C dL_law_1976 1 rfl ?_
    refine g_icmp_eq C dL_law_1978 (tgt := 1983) (by decide) (fun q => ?_) (fun q => absurd e3 q)
    refine g_iload C dL_law_1983 1 rfl ?_
    refine g_if_ne C dL_law_1985 (tgt := 2000) (by decide) (fun q => absurd q (by decide)) (fun q => ?_)
    refine g_aload_n C dL_law_1988 5 rfl ?_
    refine g_iconst C dL_law_1989 (v := 0) (by decide) ?_
    refine al_74 C dL_law_1990 ?_
    refine g_topl (y := (X 106 0 : Int32).toInt64) (kO_at _ _) ?_
    refine g_iload C dL_law_1991 0 rfl ?_
    refine g_i2l C dL_law_1993 ?_
    refine g_lcmpe C (by rw [heq]) dL_law_1994 ?_
    refine g_if_eq C dL_law_1995 (tgt := 2000) (by decide) (fun q => ?_) (fun q => absurd (by decide) q)
    refine g_goto C dL_law_2000 (tgt := 2415) (by decide) ?_
    exact g_sub [2, 3, 4, 5, 6, 7] rfl (kk _ _ _ _ _ _ _ _ _ _ (I.stay _ (R.thr 0) rfl rfl rfl) ⟨by show k + 1 + 0 + 0 ≤ 100 + 2 * (c + 1) + (K.2.1 4 + K.2.1 5); omega, by show n + 6 + 0 + 0 ≤ 2000 + 520 * (c + 1) + (K.2.1 6 + K.2.1 7); omega⟩)
  · have hx : ¬ xs_beg (M 103 0) = 0 := fun q => hc (hcd.trans q)
    refine g_aload_n C dL_law_1959 1 rfl ?_
    refine g_aload_n C dL_law_1960 3 rfl ?_
    refine g_callH C hN (c_L_count _ _ _ _ _ _ _ _ _ hst) tw1135 tw1136 tw0 tw1137 rfl ⟨by decide +kernel, by decide +kernel, rfl⟩ ⟨rfl, rfl⟩ (by rw [hR]; exact ⟨Nat.le_of_ble_eq_true rfl, Nat.le_of_ble_eq_true rfl⟩) (Nat.le_of_ble_eq_true rfl) dL_law_1961 (by rw [hR]; exact ⟨by show k + 1 ≤ 604801; omega, by show n + 6 ≤ 7193636; omega⟩) (fun r1 X1 M1 K1 h1_ => ?_)
    obtain ⟨-, hr1, hX1, hM1, hK1⟩ := h1_.resolve_left (fun q => hc q.1)
    subst X1 M1 K1
    refine g_istore C dL_law_1964 (L' := [(6, .int (r1)), (0, .ref b), (1, .ref (gad G 0)), (2, .ref (gad G 42)), (3, .ref (gad G 74)), (4, .ref (gad G 75)), (5, .int (nI (6 * c)))]) rfl (by rw [hL]; decide) ?_
    refine g_aload_n C dL_law_1966 3 rfl ?_
    refine g_callViW C dL_law_1967 (c_X11_count _ _ _ _ _ _ _ _ _ ) tw1690 tw1691 tw1692 tw16 tw1693 (rv_X11 C) rfl ⟨by decide +kernel, by decide +kernel, rfl⟩ ⟨rfl, rfl⟩ (by rw [hR]; exact ⟨Nat.le_of_ble_eq_true rfl, Nat.le_of_ble_eq_true rfl⟩) (Nat.le_of_ble_eq_true rfl) (by rw [hR]; exact ⟨by show k + 1 + 0 ≤ 604801; omega, by show n + 6 + 0 ≤ 7193636; omega⟩) (fun r2 X1 M1 K1 h2_ => ?_)
    obtain ⟨er, hX1, hM1, hK1⟩ := h2_
    rw [if_neg hx] at er hM1
    subst X1 M1 K1
    refine g_istore C dL_law_1970 (L' := [(7, .int (r2)), (6, .int (r1)), (0, .ref b), (1, .ref (gad G 0)), (2, .ref (gad G 42)), (3, .ref (gad G 74)), (4, .ref (gad G 75)), (5, .int (nI (6 * c)))]) rfl (by rw [hL]; decide) ?_
    refine g_aload_n C dL_law_1972 4 rfl ?_
    refine g_callViW C dL_law_1973 (c_X11_thrown _ _ _ _ _ _ _ _ _) tw1394 tw1395 tw1396 tw16 tw1397 (rv_X11 C) rfl ⟨by decide +kernel, by decide +kernel, rfl⟩ ⟨rfl, rfl⟩ (by rw [hR]; exact ⟨Nat.le_of_ble_eq_true rfl, Nat.le_of_ble_eq_true rfl⟩) (Nat.le_of_ble_eq_true rfl) (by rw [hR]; exact ⟨by show k + 1 + 0 + 0 ≤ 604801; omega, by show n + 6 + 0 + 0 ≤ 7193636; omega⟩) (fun r3 X1 M1 K1 h3 => ?_)
    obtain ⟨er3, hX1, hM1, hK1⟩ := h3
    subst X1 M1 K1
    have e3 : r3 = xs_beg (M 103 0) := er3.trans (by rfl)
    refine g_iload C dL_law_1976 1 rfl ?_
    refine g_icmp_eq C dL_law_1978 (tgt := 1983) (by decide) (fun q => ?_) (fun q => absurd (e3.trans (hcd.symm.trans hr1.symm)) q)
    refine g_iload C dL_law_1983 1 rfl ?_
    refine g_if_ne C dL_law_1985 (tgt := 2000) (by decide) (fun q => ?_) (fun q => absurd q (fun u => hc (hr1.symm.trans u)))
    refine g_goto C dL_law_2000 (tgt := 2415) (by decide) ?_
    exact g_sub [2, 3, 4, 5, 6, 7] rfl (kk _ _ _ _ _ _ _ _ _ _ (I.no _) ⟨by show k + 1 + 0 + 0 ≤ 100 + 2 * (c + 1) + (K.2.1 4 + K.2.1 5); omega, by show n + 6 + 0 + 0 ≤ 2000 + 520 * (c + 1) + (K.2.1 6 + K.2.1 7); omega⟩)

set_option maxHeartbeats 1000000 in
set_option maxRecDepth 100000 in
theorem lc_second {G : MC} {b Ln c : Nat} {xs : Nat → Int32} {v z z5 z8 zs : Nat} {X M : XF} {K : KF} {k n : Nat} (E : LawG G b Ln xs) (hcL : 6 * c + 6 ≤ Ln) (I : Inv c v z z5 z8 zs X M K) (hm : rmO c K k n) (kk : LwS G b c) : GH G (WX G X M K) [(0, .ref b), (1, .ref (gad G 0)), (2, .ref (gad G 42)), (3, .ref (gad G 74)), (4, .ref (gad G 75)), (5, .int (nI (6 * c)))] k n 2003 [] := by
  obtain ⟨C, hst, hN, hX, hb, hbA, hLn, hR, hL⟩ := E
  have R := I.rel
  have hc5 : c < 512 := by omega
  have hnum := I.num (by omega)
  have hlen := I.len (by omega)
  obtain ⟨hm1, hm2⟩ := hm
  have hk2 := I.k2
  have hzk := I.zk
  have hsN := I.sN
  refine g_aload_n C dL_law_2003 1 rfl ?_
  refine g_callViW C dL_law_2004 (c_X10_second _ _ _ _ _ _ _ _ _ ) tw507 tw508 tw509 tw1 tw510 (rv_X10 C) rfl ⟨by decide +kernel, by decide +kernel, rfl⟩ ⟨rfl, rfl⟩ (by rw [hR]; exact ⟨Nat.le_of_ble_eq_true rfl, Nat.le_of_ble_eq_true rfl⟩) (Nat.le_of_ble_eq_true rfl) (by rw [hR]; exact ⟨by show k + 0 ≤ 604801; omega, by show n + 0 ≤ 7193636; omega⟩) (fun r1 X1 M1 K1 h2_ => ?_)
  obtain ⟨er1, hX1, hM1, hK1⟩ := h2_
  subst X1 M1 K1
  refine g_aload_n C dL_law_2007 2 rfl ?_
  refine g_callViW C dL_law_2008 (c_X11_second _ _ _ _ _ _ _ _ _ ) tw1694 tw1695 tw1696 tw16 tw1697 (rv_X11 C) rfl ⟨by decide +kernel, by decide +kernel, rfl⟩ ⟨rfl, rfl⟩ (by rw [hR]; exact ⟨Nat.le_of_ble_eq_true rfl, Nat.le_of_ble_eq_true rfl⟩) (Nat.le_of_ble_eq_true rfl) (by rw [hR]; exact ⟨by show k + 0 + 0 ≤ 604801; omega, by show n + 0 + 0 ≤ 7193636; omega⟩) (fun r2 X1 M1 K1 h2_ => ?_)
  obtain ⟨er, hX1, hM1, hK1⟩ := h2_
  subst X1 M1 K1
  refine g_icmp_eq C dL_law_2011 (tgt := 2415) (by decide) (fun q => ?_) (fun q => absurd (er1.trans ((R.x1.trans R.m1.symm).trans er.symm)) q)
  exact g_sub [0, 1, 2, 3, 4, 5] rfl (kk _ _ _ _ _ _ _ _ _ _ (I.no 0) ⟨by show k + 0 + 0 ≤ 100 + 2 * (c + 1) + (K.2.1 4 + K.2.1 5); omega, by show n + 0 + 0 ≤ 2000 + 520 * (c + 1) + (K.2.1 6 + K.2.1 7); omega⟩)

set_option maxHeartbeats 1000000 in
set_option maxRecDepth 100000 in
theorem lc_holds {G : MC} {b Ln c : Nat} {xs : Nat → Int32} {v z z5 z8 zs : Nat} {X M : XF} {K : KF} {k n : Nat} (E : LawG G b Ln xs) (hcL : 6 * c + 6 ≤ Ln) (I : Inv c v z z5 z8 zs X M K) (hm : rmO c K k n) (kk : LwS G b c) : GH G (WX G X M K) [(0, .ref b), (1, .ref (gad G 0)), (2, .ref (gad G 42)), (3, .ref (gad G 74)), (4, .ref (gad G 75)), (5, .int (nI (6 * c)))] k n 2016 [] := by
  obtain ⟨C, hst, hN, hX, hb, hbA, hLn, hR, hL⟩ := E
  have R := I.rel
  have hc5 : c < 512 := by omega
  have hnum := I.num (by omega)
  have hlen := I.len (by omega)
  obtain ⟨hm1, hm2⟩ := hm
  have hk2 := I.k2
  have hzk := I.zk
  have hsN := I.sN
  have hcd : xk_beg (X 118 0) = xs_beg (M 103 0) := by exact q_beg R
  by_cases hc : xk_beg (X 118 0) = 0
  · have hx : xs_beg (M 103 0) = 0 := hcd.symm.trans hc
    refine g_aload_n C dL_law_2016 1 rfl ?_
    refine g_aload_n C dL_law_2017 3 rfl ?_
    refine g_callH C hN (c_L_holds _ _ _ _ _ _ _ _ _ hst) tw1143 tw1144 tw0 tw1145 rfl ⟨by decide +kernel, by decide +kernel, rfl⟩ ⟨rfl, rfl⟩ (by rw [hR]; exact ⟨Nat.le_of_ble_eq_true rfl, Nat.le_of_ble_eq_true rfl⟩) (Nat.le_of_ble_eq_true rfl) dL_law_2018 (by rw [hR]; exact ⟨by show k + 1 ≤ 604801; omega, by show n + 6 ≤ 7193636; omega⟩) (fun r1 X1 M1 K1 h1_ => ?_)
    obtain ⟨-, rfl, hX1, hM1, hK1⟩ := h1_.resolve_right (fun q => q.1 hc)
    subst X1 M1 K1
    refine g_istore C dL_law_2021 (L' := [(6, .int (0)), (0, .ref b), (1, .ref (gad G 0)), (2, .ref (gad G 42)), (3, .ref (gad G 74)), (4, .ref (gad G 75)), (5, .int (nI (6 * c)))]) rfl (by rw [hL]; decide) ?_
    refine g_aload_n C dL_law_2023 3 rfl ?_
    refine g_callViW C dL_law_2024 (c_X11_holds _ _ _ _ _ _ _ _ _ ) tw1698 tw1699 tw1700 tw16 tw1701 (rv_X11 C) rfl ⟨by decide +kernel, by decide +kernel, rfl⟩ ⟨rfl, rfl⟩ (by rw [hR]; exact ⟨Nat.le_of_ble_eq_true rfl, Nat.le_of_ble_eq_true rfl⟩) (Nat.le_of_ble_eq_true rfl) (by rw [hR]; exact ⟨by show k + 1 + 0 ≤ 604801; omega, by show n + 6 + 0 ≤ 7193636; omega⟩) (fun r2 X1 M1 K1 h2_ => ?_)
    obtain ⟨er, hX1, hM1, hK1⟩ := h2_
    rw [if_pos hx] at er hM1
    subst X1 M1 K1
    have heq : (X 109 0 : Int32) = r2 := (R.c0.2.2.2.2.1).trans er.symm
    refine g_istore C dL_law_2027 (L' := [(7, .int (r2)), (6, .int (0)), (0, .ref b), (1, .ref (gad G 0)), (2, .ref (gad G 42)), (3, .ref (gad G 74)), (4, .ref (gad G 75)), (5, .int (nI (6 * c)))]) rfl (by rw [hL]; decide) ?_
    refine g_aload_n C dL_law_2029 4 rfl ?_
    refine g_callViW C dL_law_2030 (c_X11_thrown _ _ _ _ _ _ _ _ _) tw1394 tw1395 tw1396 tw16 tw1397 (rv_X11 C) rfl ⟨by decide +kernel, by decide +kernel, rfl⟩ ⟨rfl, rfl⟩ (by rw [hR]; exact ⟨Nat.le_of_ble_eq_true rfl, Nat.le_of_ble_eq_true rfl⟩) (Nat.le_of_ble_eq_true rfl) (by rw [hR]; exact ⟨by show k + 1 + 0 + 0 ≤ 604801; omega, by show n + 6 + 0 + 0 ≤ 7193636; omega⟩) (fun r3 X1 M1 K1 h3 => ?_)
    obtain ⟨er3, hX1, hM1, hK1⟩ := h3
    subst X1 M1 K1
    have e3 : r3 = 0 := er3.trans (by rfl)
    refine g_iload C dL_law_2033 1 rfl ?_
    refine g_icmp_eq C dL_law_2035 (tgt := 2040) (by decide) (fun q => ?_) (fun q => absurd e3 q)
    refine g_iload C dL_law_2040 1 rfl ?_
    refine g_if_ne C dL_law_2042 (tgt := 2057) (by decide) (fun q => absurd q (by decide)) (fun q => ?_)
    refine g_aload_n C dL_law_2045 5 rfl ?_
    refine g_iconst C dL_law_2046 (v := 0) (by decide) ?_
    refine al_74 C dL_law_2047 ?_
    refine g_topl (y := (X 109 0 : Int32).toInt64) (kO_at _ _) ?_
    refine g_iload C dL_law_2048 0 rfl ?_
    refine g_i2l C dL_law_2050 ?_
    refine g_lcmpe C (by rw [heq]) dL_law_2051 ?_
    refine g_if_eq C dL_law_2052 (tgt := 2057) (by decide) (fun q => ?_) (fun q => absurd (by decide) q)
    refine g_goto C dL_law_2057 (tgt := 2415) (by decide) ?_
    exact g_sub [2, 3, 4, 5, 6, 7] rfl (kk _ _ _ _ _ _ _ _ _ _ (I.stay _ (R.thr 0) rfl rfl rfl) ⟨by show k + 1 + 0 + 0 ≤ 100 + 2 * (c + 1) + (K.2.1 4 + K.2.1 5); omega, by show n + 6 + 0 + 0 ≤ 2000 + 520 * (c + 1) + (K.2.1 6 + K.2.1 7); omega⟩)
  · have hx : ¬ xs_beg (M 103 0) = 0 := fun q => hc (hcd.trans q)
    refine g_aload_n C dL_law_2016 1 rfl ?_
    refine g_aload_n C dL_law_2017 3 rfl ?_
    refine g_callH C hN (c_L_holds _ _ _ _ _ _ _ _ _ hst) tw1143 tw1144 tw0 tw1145 rfl ⟨by decide +kernel, by decide +kernel, rfl⟩ ⟨rfl, rfl⟩ (by rw [hR]; exact ⟨Nat.le_of_ble_eq_true rfl, Nat.le_of_ble_eq_true rfl⟩) (Nat.le_of_ble_eq_true rfl) dL_law_2018 (by rw [hR]; exact ⟨by show k + 1 ≤ 604801; omega, by show n + 6 ≤ 7193636; omega⟩) (fun r1 X1 M1 K1 h1_ => ?_)
    obtain ⟨-, hr1, hX1, hM1, hK1⟩ := h1_.resolve_left (fun q => hc q.1)
    subst X1 M1 K1
    refine g_istore C dL_law_2021 (L' := [(6, .int (r1)), (0, .ref b), (1, .ref (gad G 0)), (2, .ref (gad G 42)), (3, .ref (gad G 74)), (4, .ref (gad G 75)), (5, .int (nI (6 * c)))]) rfl (by rw [hL]; decide) ?_
    refine g_aload_n C dL_law_2023 3 rfl ?_
    refine g_callViW C dL_law_2024 (c_X11_holds _ _ _ _ _ _ _ _ _ ) tw1698 tw1699 tw1700 tw16 tw1701 (rv_X11 C) rfl ⟨by decide +kernel, by decide +kernel, rfl⟩ ⟨rfl, rfl⟩ (by rw [hR]; exact ⟨Nat.le_of_ble_eq_true rfl, Nat.le_of_ble_eq_true rfl⟩) (Nat.le_of_ble_eq_true rfl) (by rw [hR]; exact ⟨by show k + 1 + 0 ≤ 604801; omega, by show n + 6 + 0 ≤ 7193636; omega⟩) (fun r2 X1 M1 K1 h2_ => ?_)
    obtain ⟨er, hX1, hM1, hK1⟩ := h2_
    rw [if_neg hx] at er hM1
    subst X1 M1 K1
    refine g_istore C dL_law_2027 (L' := [(7, .int (r2)), (6, .int (r1)), (0, .ref b), (1, .ref (gad G 0)), (2, .ref (gad G 42)), (3, .ref (gad G 74)), (4, .ref (gad G 75)), (5, .int (nI (6 * c)))]) rfl (by rw [hL]; decide) ?_
    refine g_aload_n C dL_law_2029 4 rfl ?_
    refine g_callViW C dL_law_2030 (c_X11_thrown _ _ _ _ _ _ _ _ _) tw1394 tw1395 tw1396 tw16 tw1397 (rv_X11 C) rfl ⟨by decide +kernel, by decide +kernel, rfl⟩ ⟨rfl, rfl⟩ (by rw [hR]; exact ⟨Nat.le_of_ble_eq_true rfl, Nat.le_of_ble_eq_true rfl⟩) (Nat.le_of_ble_eq_true rfl) (by rw [hR]; exact ⟨by show k + 1 + 0 + 0 ≤ 604801; omega, by show n + 6 + 0 + 0 ≤ 7193636; omega⟩) (fun r3 X1 M1 K1 h3 => ?_)
    obtain ⟨er3, hX1, hM1, hK1⟩ := h3
    subst X1 M1 K1
    have e3 : r3 = xs_beg (M 103 0) := er3.trans (by rfl)
    refine g_iload C dL_law_2033 1 rfl ?_
    refine g_icmp_eq C dL_law_2035 (tgt := 2040) (by decide) (fun q => ?_) (fun q => absurd (e3.trans (hcd.symm.trans hr1.symm)) q)
    refine g_iload C dL_law_2040 1 rfl ?_
    refine g_if_ne C dL_law_2042 (tgt := 2057) (by decide) (fun q => ?_) (fun q => absurd q (fun u => hc (hr1.symm.trans u)))
    refine g_goto C dL_law_2057 (tgt := 2415) (by decide) ?_
    exact g_sub [2, 3, 4, 5, 6, 7] rfl (kk _ _ _ _ _ _ _ _ _ _ (I.no _) ⟨by show k + 1 + 0 + 0 ≤ 100 + 2 * (c + 1) + (K.2.1 4 + K.2.1 5); omega, by show n + 6 + 0 + 0 ≤ 2000 + 520 * (c + 1) + (K.2.1 6 + K.2.1 7); omega⟩)

set_option maxHeartbeats 1000000 in
set_option maxRecDepth 100000 in
theorem lc_cause {G : MC} {b Ln c : Nat} {xs : Nat → Int32} {v z z5 z8 zs : Nat} {X M : XF} {K : KF} {k n : Nat} (E : LawG G b Ln xs) (hcL : 6 * c + 6 ≤ Ln) (I : Inv c v z z5 z8 zs X M K) (hm : rmO c K k n) (kk : LwS G b c) : GH G (WX G X M K) [(0, .ref b), (1, .ref (gad G 0)), (2, .ref (gad G 42)), (3, .ref (gad G 74)), (4, .ref (gad G 75)), (5, .int (nI (6 * c)))] k n 2060 [] := by
  obtain ⟨C, hst, hN, hX, hb, hbA, hLn, hR, hL⟩ := E
  have R := I.rel
  have hc5 : c < 512 := by omega
  have hnum := I.num (by omega)
  have hlen := I.len (by omega)
  obtain ⟨hm1, hm2⟩ := hm
  have hk2 := I.k2
  have hzk := I.zk
  have hsN := I.sN
  have hcd : xk_cau (X 118 0) = xs_cau (M 102 0) := by exact (q_cau R).1
  by_cases hc : xk_cau (X 118 0) = 0
  · have hx : xs_cau (M 102 0) = 0 := hcd.symm.trans hc
    refine g_aload_n C dL_law_2060 1 rfl ?_
    refine g_aload_n C dL_law_2061 3 rfl ?_
    refine g_callH C hN (c_L_cause _ _ _ _ _ _ _ _ _ R.ch111 hst) tw1150 tw1151 tw0 tw1152 rfl ⟨by decide +kernel, by decide +kernel, rfl⟩ ⟨rfl, rfl⟩ (by rw [hR]; exact ⟨Nat.le_of_ble_eq_true rfl, Nat.le_of_ble_eq_true rfl⟩) (Nat.le_of_ble_eq_true rfl) dL_law_2062 (by rw [hR]; exact ⟨by show k + 1 ≤ 604801; omega, by show n + 6 ≤ 7193636; omega⟩) (fun r1 X1 M1 K1 h1_ => ?_)
    obtain ⟨-, rfl, hX1, hM1, hK1⟩ := h1_.resolve_right (fun q => q.1 hc)
    subst X1 M1 K1
    refine g_istore C dL_law_2065 (L' := [(6, .int (0)), (0, .ref b), (1, .ref (gad G 0)), (2, .ref (gad G 42)), (3, .ref (gad G 74)), (4, .ref (gad G 75)), (5, .int (nI (6 * c)))]) rfl (by rw [hL]; decide) ?_
    refine g_aload_n C dL_law_2067 3 rfl ?_
    refine g_callViW C dL_law_2068 (c_X11_cause _ _ _ _ _ _ _ _ _ R.ch107) tw1702 tw1703 tw1704 tw16 tw1705 (rv_X11 C) rfl ⟨by decide +kernel, by decide +kernel, rfl⟩ ⟨rfl, rfl⟩ (by rw [hR]; exact ⟨Nat.le_of_ble_eq_true rfl, Nat.le_of_ble_eq_true rfl⟩) (Nat.le_of_ble_eq_true rfl) (by rw [hR]; exact ⟨by show k + 1 + 0 ≤ 604801; omega, by show n + 6 + 0 ≤ 7193636; omega⟩) (fun r2 X1 M1 K1 h2_ => ?_)
    obtain ⟨er, hX1, hM1, hK1⟩ := h2_
    rw [if_pos hx] at er hM1
    subst X1 M1 K1
    have heq : (X 111 0 : Int32) = r2 := ((q_cau R).2 hc).trans er.symm
    refine g_istore C dL_law_2071 (L' := [(7, .int (r2)), (6, .int (0)), (0, .ref b), (1, .ref (gad G 0)), (2, .ref (gad G 42)), (3, .ref (gad G 74)), (4, .ref (gad G 75)), (5, .int (nI (6 * c)))]) rfl (by rw [hL]; decide) ?_
    refine g_aload_n C dL_law_2073 4 rfl ?_
    refine g_callViW C dL_law_2074 (c_X11_thrown _ _ _ _ _ _ _ _ _) tw1394 tw1395 tw1396 tw16 tw1397 (rv_X11 C) rfl ⟨by decide +kernel, by decide +kernel, rfl⟩ ⟨rfl, rfl⟩ (by rw [hR]; exact ⟨Nat.le_of_ble_eq_true rfl, Nat.le_of_ble_eq_true rfl⟩) (Nat.le_of_ble_eq_true rfl) (by rw [hR]; exact ⟨by show k + 1 + 0 + 0 ≤ 604801; omega, by show n + 6 + 0 + 0 ≤ 7193636; omega⟩) (fun r3 X1 M1 K1 h3 => ?_)
    obtain ⟨er3, hX1, hM1, hK1⟩ := h3
    subst X1 M1 K1
    have e3 : r3 = 0 := er3.trans (by rfl)
    refine g_iload C dL_law_2077 1 rfl ?_
    refine g_icmp_eq C dL_law_2079 (tgt := 2084) (by decide) (fun q => ?_) (fun q => absurd e3 q)
    refine g_iload C dL_law_2084 1 rfl ?_
    refine g_if_ne C dL_law_2086 (tgt := 2101) (by decide) (fun q => absurd q (by decide)) (fun q => ?_)
    refine g_aload_n C dL_law_2089 5 rfl ?_
    refine g_iconst C dL_law_2090 (v := 0) (by decide) ?_
    refine al_74 C dL_law_2091 ?_
    refine g_topl (y := (X 111 0 : Int32).toInt64) (kO_at _ _) ?_
    refine g_iload C dL_law_2092 0 rfl ?_
    refine g_i2l C dL_law_2094 ?_
    refine g_lcmpe C (by rw [heq]) dL_law_2095 ?_
    refine g_if_eq C dL_law_2096 (tgt := 2101) (by decide) (fun q => ?_) (fun q => absurd (by decide) q)
    refine g_goto C dL_law_2101 (tgt := 2415) (by decide) ?_
    exact g_sub [2, 3, 4, 5, 6, 7] rfl (kk _ _ _ _ _ _ _ _ _ _ (I.stay _ (R.thr 0) rfl rfl rfl) ⟨by show k + 1 + 0 + 0 ≤ 100 + 2 * (c + 1) + (K.2.1 4 + K.2.1 5); omega, by show n + 6 + 0 + 0 ≤ 2000 + 520 * (c + 1) + (K.2.1 6 + K.2.1 7); omega⟩)
  · have hx : ¬ xs_cau (M 102 0) = 0 := fun q => hc (hcd.trans q)
    refine g_aload_n C dL_law_2060 1 rfl ?_
    refine g_aload_n C dL_law_2061 3 rfl ?_
    refine g_callH C hN (c_L_cause _ _ _ _ _ _ _ _ _ R.ch111 hst) tw1150 tw1151 tw0 tw1152 rfl ⟨by decide +kernel, by decide +kernel, rfl⟩ ⟨rfl, rfl⟩ (by rw [hR]; exact ⟨Nat.le_of_ble_eq_true rfl, Nat.le_of_ble_eq_true rfl⟩) (Nat.le_of_ble_eq_true rfl) dL_law_2062 (by rw [hR]; exact ⟨by show k + 1 ≤ 604801; omega, by show n + 6 ≤ 7193636; omega⟩) (fun r1 X1 M1 K1 h1_ => ?_)
    obtain ⟨-, hr1, hX1, hM1, hK1⟩ := h1_.resolve_left (fun q => hc q.1)
    subst X1 M1 K1
    refine g_istore C dL_law_2065 (L' := [(6, .int (r1)), (0, .ref b), (1, .ref (gad G 0)), (2, .ref (gad G 42)), (3, .ref (gad G 74)), (4, .ref (gad G 75)), (5, .int (nI (6 * c)))]) rfl (by rw [hL]; decide) ?_
    refine g_aload_n C dL_law_2067 3 rfl ?_
    refine g_callViW C dL_law_2068 (c_X11_cause _ _ _ _ _ _ _ _ _ R.ch107) tw1702 tw1703 tw1704 tw16 tw1705 (rv_X11 C) rfl ⟨by decide +kernel, by decide +kernel, rfl⟩ ⟨rfl, rfl⟩ (by rw [hR]; exact ⟨Nat.le_of_ble_eq_true rfl, Nat.le_of_ble_eq_true rfl⟩) (Nat.le_of_ble_eq_true rfl) (by rw [hR]; exact ⟨by show k + 1 + 0 ≤ 604801; omega, by show n + 6 + 0 ≤ 7193636; omega⟩) (fun r2 X1 M1 K1 h2_ => ?_)
    obtain ⟨er, hX1, hM1, hK1⟩ := h2_
    rw [if_neg hx] at er hM1
    subst X1 M1 K1
    refine g_istore C dL_law_2071 (L' := [(7, .int (r2)), (6, .int (r1)), (0, .ref b), (1, .ref (gad G 0)), (2, .ref (gad G 42)), (3, .ref (gad G 74)), (4, .ref (gad G 75)), (5, .int (nI (6 * c)))]) rfl (by rw [hL]; decide) ?_
    refine g_aload_n C dL_law_2073 4 rfl ?_
    refine g_callViW C dL_law_2074 (c_X11_thrown _ _ _ _ _ _ _ _ _) tw1394 tw1395 tw1396 tw16 tw1397 (rv_X11 C) rfl ⟨by decide +kernel, by decide +kernel, rfl⟩ ⟨rfl, rfl⟩ (by rw [hR]; exact ⟨Nat.le_of_ble_eq_true rfl, Nat.le_of_ble_eq_true rfl⟩) (Nat.le_of_ble_eq_true rfl) (by rw [hR]; exact ⟨by show k + 1 + 0 + 0 ≤ 604801; omega, by show n + 6 + 0 + 0 ≤ 7193636; omega⟩) (fun r3 X1 M1 K1 h3 => ?_)
    obtain ⟨er3, hX1, hM1, hK1⟩ := h3
    subst X1 M1 K1
    have e3 : r3 = xs_cau (M 102 0) := er3.trans (by rfl)
    refine g_iload C dL_law_2077 1 rfl ?_
    refine g_icmp_eq C dL_law_2079 (tgt := 2084) (by decide) (fun q => ?_) (fun q => absurd (e3.trans (hcd.symm.trans hr1.symm)) q)
    refine g_iload C dL_law_2084 1 rfl ?_
    refine g_if_ne C dL_law_2086 (tgt := 2101) (by decide) (fun q => ?_) (fun q => absurd q (fun u => hc (hr1.symm.trans u)))
    refine g_goto C dL_law_2101 (tgt := 2415) (by decide) ?_
    exact g_sub [2, 3, 4, 5, 6, 7] rfl (kk _ _ _ _ _ _ _ _ _ _ (I.no _) ⟨by show k + 1 + 0 + 0 ≤ 100 + 2 * (c + 1) + (K.2.1 4 + K.2.1 5); omega, by show n + 6 + 0 + 0 ≤ 2000 + 520 * (c + 1) + (K.2.1 6 + K.2.1 7); omega⟩)

set_option maxHeartbeats 1000000 in
set_option maxRecDepth 100000 in
theorem lc_causeRule {G : MC} {b Ln c : Nat} {xs : Nat → Int32} {v z z5 z8 zs : Nat} {X M : XF} {K : KF} {k n : Nat} (E : LawG G b Ln xs) (hcL : 6 * c + 6 ≤ Ln) (I : Inv c v z z5 z8 zs X M K) (hm : rmO c K k n) (kk : LwS G b c) : GH G (WX G X M K) [(0, .ref b), (1, .ref (gad G 0)), (2, .ref (gad G 42)), (3, .ref (gad G 74)), (4, .ref (gad G 75)), (5, .int (nI (6 * c)))] k n 2104 [] := by
  obtain ⟨C, hst, hN, hX, hb, hbA, hLn, hR, hL⟩ := E
  have R := I.rel
  have hc5 : c < 512 := by omega
  have hnum := I.num (by omega)
  have hlen := I.len (by omega)
  obtain ⟨hm1, hm2⟩ := hm
  have hk2 := I.k2
  have hzk := I.zk
  have hsN := I.sN
  have hcd : xk_car (X 118 0) (X 112 0) = xs_car (M 102 0) (M 108 0) := by exact (q_car R).1
  by_cases hc : xk_car (X 118 0) (X 112 0) = 0
  · have hx : xs_car (M 102 0) (M 108 0) = 0 := hcd.symm.trans hc
    refine g_aload_n C dL_law_2104 1 rfl ?_
    refine g_aload_n C dL_law_2105 3 rfl ?_
    refine g_callH C hN (c_L_causeRule _ _ _ _ _ _ _ _ _ hst) tw1178 tw1179 tw0 tw1180 rfl ⟨by decide +kernel, by decide +kernel, rfl⟩ ⟨rfl, rfl⟩ (by rw [hR]; exact ⟨Nat.le_of_ble_eq_true rfl, Nat.le_of_ble_eq_true rfl⟩) (Nat.le_of_ble_eq_true rfl) dL_law_2106 (by rw [hR]; exact ⟨by show k + 1 ≤ 604801; omega, by show n + 6 ≤ 7193636; omega⟩) (fun r1 X1 M1 K1 h1_ => ?_)
    obtain ⟨-, rfl, hX1, hM1, hK1⟩ := h1_.resolve_right (fun q => q.1 hc)
    subst X1 M1 K1
    refine g_istore C dL_law_2109 (L' := [(6, .int (0)), (0, .ref b), (1, .ref (gad G 0)), (2, .ref (gad G 42)), (3, .ref (gad G 74)), (4, .ref (gad G 75)), (5, .int (nI (6 * c)))]) rfl (by rw [hL]; decide) ?_
    refine g_aload_n C dL_law_2111 3 rfl ?_
    refine g_callViW C dL_law_2112 (c_X11_causeRule _ _ _ _ _ _ _ _ _ ) tw1710 tw1711 tw1712 tw16 tw1713 (rv_X11 C) rfl ⟨by decide +kernel, by decide +kernel, rfl⟩ ⟨rfl, rfl⟩ (by rw [hR]; exact ⟨Nat.le_of_ble_eq_true rfl, Nat.le_of_ble_eq_true rfl⟩) (Nat.le_of_ble_eq_true rfl) (by rw [hR]; exact ⟨by show k + 1 + 0 ≤ 604801; omega, by show n + 6 + 0 ≤ 7193636; omega⟩) (fun r2 X1 M1 K1 h2_ => ?_)
    obtain ⟨er, hX1, hM1, hK1⟩ := h2_
    rw [if_pos hx] at er hM1
    subst X1 M1 K1
    have heq : (X 112 0 : Int32) = r2 := ((q_car R).2 hc).trans er.symm
    refine g_istore C dL_law_2115 (L' := [(7, .int (r2)), (6, .int (0)), (0, .ref b), (1, .ref (gad G 0)), (2, .ref (gad G 42)), (3, .ref (gad G 74)), (4, .ref (gad G 75)), (5, .int (nI (6 * c)))]) rfl (by rw [hL]; decide) ?_
    refine g_aload_n C dL_law_2117 4 rfl ?_
    refine g_callViW C dL_law_2118 (c_X11_thrown _ _ _ _ _ _ _ _ _) tw1394 tw1395 tw1396 tw16 tw1397 (rv_X11 C) rfl ⟨by decide +kernel, by decide +kernel, rfl⟩ ⟨rfl, rfl⟩ (by rw [hR]; exact ⟨Nat.le_of_ble_eq_true rfl, Nat.le_of_ble_eq_true rfl⟩) (Nat.le_of_ble_eq_true rfl) (by rw [hR]; exact ⟨by show k + 1 + 0 + 0 ≤ 604801; omega, by show n + 6 + 0 + 0 ≤ 7193636; omega⟩) (fun r3 X1 M1 K1 h3 => ?_)
    obtain ⟨er3, hX1, hM1, hK1⟩ := h3
    subst X1 M1 K1
    have e3 : r3 = 0 := er3.trans (by rfl)
    refine g_iload C dL_law_2121 1 rfl ?_
    refine g_icmp_eq C dL_law_2123 (tgt := 2128) (by decide) (fun q => ?_) (fun q => absurd e3 q)
    refine g_iload C dL_law_2128 1 rfl ?_
    refine g_if_ne C dL_law_2130 (tgt := 2145) (by decide) (fun q => absurd q (by decide)) (fun q => ?_)
    refine g_aload_n C dL_law_2133 5 rfl ?_
    refine g_iconst C dL_law_2134 (v := 0) (by decide) ?_
    refine al_74 C dL_law_2135 ?_
    refine g_topl (y := (X 112 0 : Int32).toInt64) (kO_at _ _) ?_
    refine g_iload C dL_law_2136 0 rfl ?_
    refine g_i2l C dL_law_2138 ?_
    refine g_lcmpe C (by rw [heq]) dL_law_2139 ?_
    refine g_if_eq C dL_law_2140 (tgt := 2145) (by decide) (fun q => ?_) (fun q => absurd (by decide) q)
    refine g_goto C dL_law_2145 (tgt := 2415) (by decide) ?_
    exact g_sub [2, 3, 4, 5, 6, 7] rfl (kk _ _ _ _ _ _ _ _ _ _ (I.stay _ (R.thr 0) rfl rfl rfl) ⟨by show k + 1 + 0 + 0 ≤ 100 + 2 * (c + 1) + (K.2.1 4 + K.2.1 5); omega, by show n + 6 + 0 + 0 ≤ 2000 + 520 * (c + 1) + (K.2.1 6 + K.2.1 7); omega⟩)
  · have hx : ¬ xs_car (M 102 0) (M 108 0) = 0 := fun q => hc (hcd.trans q)
    refine g_aload_n C dL_law_2104 1 rfl ?_
    refine g_aload_n C dL_law_2105 3 rfl ?_
    refine g_callH C hN (c_L_causeRule _ _ _ _ _ _ _ _ _ hst) tw1178 tw1179 tw0 tw1180 rfl ⟨by decide +kernel, by decide +kernel, rfl⟩ ⟨rfl, rfl⟩ (by rw [hR]; exact ⟨Nat.le_of_ble_eq_true rfl, Nat.le_of_ble_eq_true rfl⟩) (Nat.le_of_ble_eq_true rfl) dL_law_2106 (by rw [hR]; exact ⟨by show k + 1 ≤ 604801; omega, by show n + 6 ≤ 7193636; omega⟩) (fun r1 X1 M1 K1 h1_ => ?_)
    obtain ⟨-, hr1, hX1, hM1, hK1⟩ := h1_.resolve_left (fun q => hc q.1)
    subst X1 M1 K1
    refine g_istore C dL_law_2109 (L' := [(6, .int (r1)), (0, .ref b), (1, .ref (gad G 0)), (2, .ref (gad G 42)), (3, .ref (gad G 74)), (4, .ref (gad G 75)), (5, .int (nI (6 * c)))]) rfl (by rw [hL]; decide) ?_
    refine g_aload_n C dL_law_2111 3 rfl ?_
    refine g_callViW C dL_law_2112 (c_X11_causeRule _ _ _ _ _ _ _ _ _ ) tw1710 tw1711 tw1712 tw16 tw1713 (rv_X11 C) rfl ⟨by decide +kernel, by decide +kernel, rfl⟩ ⟨rfl, rfl⟩ (by rw [hR]; exact ⟨Nat.le_of_ble_eq_true rfl, Nat.le_of_ble_eq_true rfl⟩) (Nat.le_of_ble_eq_true rfl) (by rw [hR]; exact ⟨by show k + 1 + 0 ≤ 604801; omega, by show n + 6 + 0 ≤ 7193636; omega⟩) (fun r2 X1 M1 K1 h2_ => ?_)
    obtain ⟨er, hX1, hM1, hK1⟩ := h2_
    rw [if_neg hx] at er hM1
    subst X1 M1 K1
    refine g_istore C dL_law_2115 (L' := [(7, .int (r2)), (6, .int (r1)), (0, .ref b), (1, .ref (gad G 0)), (2, .ref (gad G 42)), (3, .ref (gad G 74)), (4, .ref (gad G 75)), (5, .int (nI (6 * c)))]) rfl (by rw [hL]; decide) ?_
    refine g_aload_n C dL_law_2117 4 rfl ?_
    refine g_callViW C dL_law_2118 (c_X11_thrown _ _ _ _ _ _ _ _ _) tw1394 tw1395 tw1396 tw16 tw1397 (rv_X11 C) rfl ⟨by decide +kernel, by decide +kernel, rfl⟩ ⟨rfl, rfl⟩ (by rw [hR]; exact ⟨Nat.le_of_ble_eq_true rfl, Nat.le_of_ble_eq_true rfl⟩) (Nat.le_of_ble_eq_true rfl) (by rw [hR]; exact ⟨by show k + 1 + 0 + 0 ≤ 604801; omega, by show n + 6 + 0 + 0 ≤ 7193636; omega⟩) (fun r3 X1 M1 K1 h3 => ?_)
    obtain ⟨er3, hX1, hM1, hK1⟩ := h3
    subst X1 M1 K1
    have e3 : r3 = xs_car (M 102 0) (M 108 0) := er3.trans (by rfl)
    refine g_iload C dL_law_2121 1 rfl ?_
    refine g_icmp_eq C dL_law_2123 (tgt := 2128) (by decide) (fun q => ?_) (fun q => absurd (e3.trans (hcd.symm.trans hr1.symm)) q)
    refine g_iload C dL_law_2128 1 rfl ?_
    refine g_if_ne C dL_law_2130 (tgt := 2145) (by decide) (fun q => ?_) (fun q => absurd q (fun u => hc (hr1.symm.trans u)))
    refine g_goto C dL_law_2145 (tgt := 2415) (by decide) ?_
    exact g_sub [2, 3, 4, 5, 6, 7] rfl (kk _ _ _ _ _ _ _ _ _ _ (I.no _) ⟨by show k + 1 + 0 + 0 ≤ 100 + 2 * (c + 1) + (K.2.1 4 + K.2.1 5); omega, by show n + 6 + 0 + 0 ≤ 2000 + 520 * (c + 1) + (K.2.1 6 + K.2.1 7); omega⟩)

set_option maxHeartbeats 1000000 in
set_option maxRecDepth 100000 in
theorem lc_risk {G : MC} {b Ln c : Nat} {xs : Nat → Int32} {v z z5 z8 zs : Nat} {X M : XF} {K : KF} {k n : Nat} (E : LawG G b Ln xs) (hcL : 6 * c + 6 ≤ Ln) (I : Inv c v z z5 z8 zs X M K) (hm : rmO c K k n) (kk : LwS G b c) : GH G (WX G X M K) [(0, .ref b), (1, .ref (gad G 0)), (2, .ref (gad G 42)), (3, .ref (gad G 74)), (4, .ref (gad G 75)), (5, .int (nI (6 * c)))] k n 2148 [] := by
  obtain ⟨C, hst, hN, hX, hb, hbA, hLn, hR, hL⟩ := E
  have R := I.rel
  have hc5 : c < 512 := by omega
  have hnum := I.num (by omega)
  have hlen := I.len (by omega)
  obtain ⟨hm1, hm2⟩ := hm
  have hk2 := I.k2
  have hzk := I.zk
  have hsN := I.sN
  refine g_aload_n C dL_law_2148 1 rfl ?_
  refine g_callViW C dL_law_2149 (c_X10_risk _ _ _ _ _ _ _ _ _ ) tw511 tw512 tw513 tw1 tw514 (rv_X10 C) rfl ⟨by decide +kernel, by decide +kernel, rfl⟩ ⟨rfl, rfl⟩ (by rw [hR]; exact ⟨Nat.le_of_ble_eq_true rfl, Nat.le_of_ble_eq_true rfl⟩) (Nat.le_of_ble_eq_true rfl) (by rw [hR]; exact ⟨by show k + 0 ≤ 604801; omega, by show n + 0 ≤ 7193636; omega⟩) (fun r1 X1 M1 K1 h2_ => ?_)
  obtain ⟨er1, hX1, hM1, hK1⟩ := h2_
  subst X1 M1 K1
  refine g_aload_n C dL_law_2152 2 rfl ?_
  refine g_callViW C dL_law_2153 (c_X11_risk _ _ _ _ _ _ _ _ _ ) tw1714 tw1715 tw1716 tw16 tw1717 (rv_X11 C) rfl ⟨by decide +kernel, by decide +kernel, rfl⟩ ⟨rfl, rfl⟩ (by rw [hR]; exact ⟨Nat.le_of_ble_eq_true rfl, Nat.le_of_ble_eq_true rfl⟩) (Nat.le_of_ble_eq_true rfl) (by rw [hR]; exact ⟨by show k + 0 + 0 ≤ 604801; omega, by show n + 0 + 0 ≤ 7193636; omega⟩) (fun r2 X1 M1 K1 h2_ => ?_)
  obtain ⟨er, hX1, hM1, hK1⟩ := h2_
  subst X1 M1 K1
  refine g_icmp_eq C dL_law_2156 (tgt := 2415) (by decide) (fun q => ?_) (fun q => absurd (er1.trans ((risk_eq R.2.2.2.2.1).trans er.symm)) q)
  exact g_sub [0, 1, 2, 3, 4, 5] rfl (kk _ _ _ _ _ _ _ _ _ _ (I.no 0) ⟨by show k + 0 + 0 ≤ 100 + 2 * (c + 1) + (K.2.1 4 + K.2.1 5); omega, by show n + 0 + 0 ≤ 2000 + 520 * (c + 1) + (K.2.1 6 + K.2.1 7); omega⟩)

set_option maxHeartbeats 1000000 in
set_option maxRecDepth 100000 in
theorem lc_logLength {G : MC} {b Ln c : Nat} {xs : Nat → Int32} {v z z5 z8 zs : Nat} {X M : XF} {K : KF} {k n : Nat} (E : LawG G b Ln xs) (hcL : 6 * c + 6 ≤ Ln) (I : Inv c v z z5 z8 zs X M K) (hm : rmO c K k n) (kk : LwS G b c) : GH G (WX G X M K) [(0, .ref b), (1, .ref (gad G 0)), (2, .ref (gad G 42)), (3, .ref (gad G 74)), (4, .ref (gad G 75)), (5, .int (nI (6 * c)))] k n 2161 [] := by
  obtain ⟨C, hst, hN, hX, hb, hbA, hLn, hR, hL⟩ := E
  have R := I.rel
  have hc5 : c < 512 := by omega
  have hnum := I.num (by omega)
  have hlen := I.len (by omega)
  obtain ⟨hm1, hm2⟩ := hm
  have hk2 := I.k2
  have hzk := I.zk
  have hsN := I.sN
  have hcap0 : K.2.1 0 < 2 ^ 26 := by omega
  have hcap1 : K.2.1 1 < 2 ^ 26 := by omega
  have hlen0 : (K.2.2.1 0).length < 2 ^ 26 := by omega
  have hlen1 : (K.2.2.1 1).length < 2 ^ 26 := by rw [← I.t01]; exact hlen0
  have hch1 : ∀ j : Nat, (K.2.2.1 1).getD j 0 < 128 := by rw [← I.t01]; exact I.rt.2.2
  refine g_aload_n C dL_law_2161 1 rfl ?_
  refine g_callViW C dL_law_2162 (c_X10_logLength _ _ _ _ _ _ _ _ _ hcap0 hlen0) tw519 tw520 tw521 tw1 tw522 (rv_X10 C) rfl ⟨by decide +kernel, by decide +kernel, rfl⟩ ⟨rfl, rfl⟩ (by rw [hR]; exact ⟨Nat.le_of_ble_eq_true rfl, Nat.le_of_ble_eq_true rfl⟩) (Nat.le_of_ble_eq_true rfl) (by rw [hR]; exact ⟨by show k + 0 ≤ 604801; omega, by show n + 0 ≤ 7193636; omega⟩) (fun r1 X1 M1 K1 h2_ => ?_)
  obtain ⟨er1, hX1, hM1, hK1⟩ := h2_
  subst X1 M1 K1
  refine g_aload_n C dL_law_2165 2 rfl ?_
  refine g_callViW C dL_law_2166 (c_X11_logLength _ _ _ _ _ _ _ _ _ hcap1 hlen1) tw1718 tw1719 tw1720 tw16 tw1721 (rv_X11 C) rfl ⟨by decide +kernel, by decide +kernel, rfl⟩ ⟨rfl, rfl⟩ (by rw [hR]; exact ⟨Nat.le_of_ble_eq_true rfl, Nat.le_of_ble_eq_true rfl⟩) (Nat.le_of_ble_eq_true rfl) (by rw [hR]; exact ⟨by show k + 0 + 0 ≤ 604801; omega, by show n + 0 + 0 ≤ 7193636; omega⟩) (fun r2 X1 M1 K1 h2_ => ?_)
  obtain ⟨er, hX1, hM1, hK1⟩ := h2_
  subst X1 M1 K1
  refine g_icmp_eq C dL_law_2169 (tgt := 2415) (by decide) (fun q => ?_) (fun q => absurd (er1.trans ((congrArg (fun t : List Nat => (nI t.length : Int32)) I.t01).trans er.symm)) q)
  exact g_sub [0, 1, 2, 3, 4, 5] rfl (kk _ _ _ _ _ _ _ _ _ _ (I.no 0) ⟨by show k + 0 + 0 ≤ 100 + 2 * (c + 1) + (K.2.1 4 + K.2.1 5); omega, by show n + 0 + 0 ≤ 2000 + 520 * (c + 1) + (K.2.1 6 + K.2.1 7); omega⟩)

set_option maxHeartbeats 1000000 in
set_option maxRecDepth 100000 in
theorem lc_logAt {G : MC} {b Ln c : Nat} {xs : Nat → Int32} {v z z5 z8 zs : Nat} {X M : XF} {K : KF} {k n : Nat} (E : LawG G b Ln xs) (hcL : 6 * c + 6 ≤ Ln) (I : Inv c v z z5 z8 zs X M K) (hm : rmO c K k n) (kk : LwS G b c) : GH G (WX G X M K) [(0, .ref b), (1, .ref (gad G 0)), (2, .ref (gad G 42)), (3, .ref (gad G 74)), (4, .ref (gad G 75)), (5, .int (nI (6 * c)))] k n 2174 [] := by
  obtain ⟨C, hst, hN, hX, hb, hbA, hLn, hR, hL⟩ := E
  have R := I.rel
  have hc5 : c < 512 := by omega
  have hnum := I.num (by omega)
  have hlen := I.len (by omega)
  obtain ⟨hm1, hm2⟩ := hm
  have hk2 := I.k2
  have hzk := I.zk
  have hsN := I.sN
  obtain ⟨p1, e1⟩ : ∃ p, xs (6 * c + 1) = p := ⟨_, rfl⟩
  have hcap0 : K.2.1 0 < 2 ^ 26 := by omega
  have hcap1 : K.2.1 1 < 2 ^ 26 := by omega
  have hlen0 : (K.2.2.1 0).length < 2 ^ 26 := by omega
  have hlen1 : (K.2.2.1 1).length < 2 ^ 26 := by rw [← I.t01]; exact hlen0
  have hch1 : ∀ j : Nat, (K.2.2.1 1).getD j 0 < 128 := by rw [← I.t01]; exact I.rt.2.2
  have hcd : xk_b p1 (nI (K.2.2.1 0).length) = md_no p1 (nI (K.2.2.1 1).length) := by rw [← I.t01]; exact cd_bz2 (by omega) _
  by_cases hc : xk_b p1 (nI (K.2.2.1 0).length) = 0
  · have hx : md_no p1 (nI (K.2.2.1 1).length) = 0 := hcd.symm.trans hc
    refine g_aload_n C dL_law_2174 1 rfl ?_
    refine g_aload_n C dL_law_2175 0 rfl ?_
    refine g_iload C dL_law_2176 5 rfl ?_
    refine g_iconst C dL_law_2178 (v := 1) (by decide) ?_
    refine g_iadd C dL_law_2179 ?_
    refine g_topi (y := nI (6 * c + 1)) (nI_add (6 * c) 1) ?_
    refine g_scr C hX hb hbA (j := 6 * c + 1) (by omega) (by omega) dL_law_2180 ?_
    refine g_topi e1 ?_
    refine g_aload_n C dL_law_2181 3 rfl ?_
    refine g_callH C hN (c_L_logAt _ _ _ _ _ _ _ _ _ _ hcap0 hlen0 I.rt.2.2 hst) tw1186 tw1187 tw0 tw1188 rfl ⟨by decide +kernel, by decide +kernel, rfl⟩ ⟨rfl, rfl⟩ (by rw [hR]; exact ⟨Nat.le_of_ble_eq_true rfl, Nat.le_of_ble_eq_true rfl⟩) (Nat.le_of_ble_eq_true rfl) dL_law_2182 (by rw [hR]; exact ⟨by show k + 1 ≤ 604801; omega, by show n + 6 ≤ 7193636; omega⟩) (fun r1 X1 M1 K1 h1_ => ?_)
    obtain ⟨-, rfl, hX1, hM1, hK1⟩ := h1_.resolve_right (fun q => q.1 hc)
    subst X1 M1 K1
    refine g_istore C dL_law_2185 (L' := [(6, .int (0)), (0, .ref b), (1, .ref (gad G 0)), (2, .ref (gad G 42)), (3, .ref (gad G 74)), (4, .ref (gad G 75)), (5, .int (nI (6 * c)))]) rfl (by rw [hL]; decide) ?_
    refine g_aload_n C dL_law_2187 3 rfl ?_
    refine g_aload_n C dL_law_2188 1 rfl ?_
    refine g_iload C dL_law_2189 6 rfl ?_
    refine g_iconst C dL_law_2191 (v := 1) (by decide) ?_
    refine g_iadd C dL_law_2192 ?_
    refine g_topi (y := nI (6 * c + 1)) (nI_add (6 * c) 1) ?_
    refine g_scr C hX hb hbA (j := 6 * c + 1) (by omega) (by omega) dL_law_2193 ?_
    refine g_topi e1 ?_
    refine g_callViW C dL_law_2194 (c_X11_logAt _ _ _ _ _ _ _ _ _ _ hcap1 hlen1 hch1) tw1723 tw1724 tw1725 tw16 tw1726 (rv_X11 C) rfl ⟨by decide +kernel, by decide +kernel, rfl⟩ ⟨rfl, rfl⟩ (by rw [hR]; exact ⟨Nat.le_of_ble_eq_true rfl, Nat.le_of_ble_eq_true rfl⟩) (Nat.le_of_ble_eq_true rfl) (by rw [hR]; exact ⟨by show k + 1 + 0 ≤ 604801; omega, by show n + 6 + 0 ≤ 7193636; omega⟩) (fun r2 X1 M1 K1 h2_ => ?_)
    obtain ⟨er, hX1, hM1, hK1⟩ := h2_
    rw [if_pos (show md_no p1 (nI ((kO K (nI ((K.2.2.1 0).getD p1.toNatClampNeg 0) : Int32).toInt64).2.2.1 1).length) = 0 from hx)] at er hM1
    subst X1 M1 K1
    have heq : (nI ((K.2.2.1 0).getD p1.toNatClampNeg 0) : Int32) = r2 := ((congrArg (fun t : List Nat => (nI (t.getD p1.toNatClampNeg 0) : Int32)) I.t01)).trans er.symm
    refine g_istore C dL_law_2197 (L' := [(7, .int (r2)), (6, .int (0)), (0, .ref b), (1, .ref (gad G 0)), (2, .ref (gad G 42)), (3, .ref (gad G 74)), (4, .ref (gad G 75)), (5, .int (nI (6 * c)))]) rfl (by rw [hL]; decide) ?_
    refine g_aload_n C dL_law_2199 4 rfl ?_
    refine g_callViW C dL_law_2200 (c_X11_thrown _ _ _ _ _ _ _ _ _) tw1394 tw1395 tw1396 tw16 tw1397 (rv_X11 C) rfl ⟨by decide +kernel, by decide +kernel, rfl⟩ ⟨rfl, rfl⟩ (by rw [hR]; exact ⟨Nat.le_of_ble_eq_true rfl, Nat.le_of_ble_eq_true rfl⟩) (Nat.le_of_ble_eq_true rfl) (by rw [hR]; exact ⟨by show k + 1 + 0 + 0 ≤ 604801; omega, by show n + 6 + 0 + 0 ≤ 7193636; omega⟩) (fun r3 X1 M1 K1 h3 => ?_)
    obtain ⟨er3, hX1, hM1, hK1⟩ := h3
    subst X1 M1 K1
    have e3 : r3 = 0 := er3.trans (by rfl)
    refine g_iload C dL_law_2203 1 rfl ?_
    refine g_icmp_eq C dL_law_2205 (tgt := 2210) (by decide) (fun q => ?_) (fun q => absurd e3 q)
    refine g_iload C dL_law_2210 1 rfl ?_
    refine g_if_ne C dL_law_2212 (tgt := 2227) (by decide) (fun q => absurd q (by decide)) (fun q => ?_)
    refine g_aload_n C dL_law_2215 5 rfl ?_
    refine g_iconst C dL_law_2216 (v := 0) (by decide) ?_
    refine al_74 C dL_law_2217 ?_
    refine g_topl (y := (nI ((K.2.2.1 0).getD p1.toNatClampNeg 0) : Int32).toInt64) (kO_at _ _) ?_
    refine g_iload C dL_law_2218 0 rfl ?_
    refine g_i2l C dL_law_2220 ?_
    refine g_lcmpe C (by rw [heq]) dL_law_2221 ?_
    refine g_if_eq C dL_law_2222 (tgt := 2227) (by decide) (fun q => ?_) (fun q => absurd (by decide) q)
    refine g_goto C dL_law_2227 (tgt := 2415) (by decide) ?_
    exact g_sub [2, 3, 4, 5, 6, 7] rfl (kk _ _ _ _ _ _ _ _ _ _ (I.stay _ (R.thr 0) rfl rfl rfl) ⟨by show k + 1 + 0 + 0 ≤ 100 + 2 * (c + 1) + (K.2.1 4 + K.2.1 5); omega, by show n + 6 + 0 + 0 ≤ 2000 + 520 * (c + 1) + (K.2.1 6 + K.2.1 7); omega⟩)
  · have hx : ¬ md_no p1 (nI (K.2.2.1 1).length) = 0 := fun q => hc (hcd.trans q)
    refine g_aload_n C dL_law_2174 1 rfl ?_
    refine g_aload_n C dL_law_2175 0 rfl ?_
    refine g_iload C dL_law_2176 5 rfl ?_
    refine g_iconst C dL_law_2178 (v := 1) (by decide) ?_
    refine g_iadd C dL_law_2179 ?_
    refine g_topi (y := nI (6 * c + 1)) (nI_add (6 * c) 1) ?_
    refine g_scr C hX hb hbA (j := 6 * c + 1) (by omega) (by omega) dL_law_2180 ?_
    refine g_topi e1 ?_
    refine g_aload_n C dL_law_2181 3 rfl ?_
    refine g_callH C hN (c_L_logAt _ _ _ _ _ _ _ _ _ _ hcap0 hlen0 I.rt.2.2 hst) tw1186 tw1187 tw0 tw1188 rfl ⟨by decide +kernel, by decide +kernel, rfl⟩ ⟨rfl, rfl⟩ (by rw [hR]; exact ⟨Nat.le_of_ble_eq_true rfl, Nat.le_of_ble_eq_true rfl⟩) (Nat.le_of_ble_eq_true rfl) dL_law_2182 (by rw [hR]; exact ⟨by show k + 1 ≤ 604801; omega, by show n + 6 ≤ 7193636; omega⟩) (fun r1 X1 M1 K1 h1_ => ?_)
    obtain ⟨-, hr1, hX1, hM1, hK1⟩ := h1_.resolve_left (fun q => hc q.1)
    subst X1 M1 K1
    refine g_istore C dL_law_2185 (L' := [(6, .int (r1)), (0, .ref b), (1, .ref (gad G 0)), (2, .ref (gad G 42)), (3, .ref (gad G 74)), (4, .ref (gad G 75)), (5, .int (nI (6 * c)))]) rfl (by rw [hL]; decide) ?_
    refine g_aload_n C dL_law_2187 3 rfl ?_
    refine g_aload_n C dL_law_2188 1 rfl ?_
    refine g_iload C dL_law_2189 6 rfl ?_
    refine g_iconst C dL_law_2191 (v := 1) (by decide) ?_
    refine g_iadd C dL_law_2192 ?_
    refine g_topi (y := nI (6 * c + 1)) (nI_add (6 * c) 1) ?_
    refine g_scr C hX hb hbA (j := 6 * c + 1) (by omega) (by omega) dL_law_2193 ?_
    refine g_topi e1 ?_
    refine g_callViW C dL_law_2194 (c_X11_logAt _ _ _ _ _ _ _ _ _ _ hcap1 hlen1 hch1) tw1723 tw1724 tw1725 tw16 tw1726 (rv_X11 C) rfl ⟨by decide +kernel, by decide +kernel, rfl⟩ ⟨rfl, rfl⟩ (by rw [hR]; exact ⟨Nat.le_of_ble_eq_true rfl, Nat.le_of_ble_eq_true rfl⟩) (Nat.le_of_ble_eq_true rfl) (by rw [hR]; exact ⟨by show k + 1 + 0 ≤ 604801; omega, by show n + 6 + 0 ≤ 7193636; omega⟩) (fun r2 X1 M1 K1 h2_ => ?_)
    obtain ⟨er, hX1, hM1, hK1⟩ := h2_
    rw [if_neg hx] at er hM1
    subst X1 M1 K1
    refine g_istore C dL_law_2197 (L' := [(7, .int (r2)), (6, .int (r1)), (0, .ref b), (1, .ref (gad G 0)), (2, .ref (gad G 42)), (3, .ref (gad G 74)), (4, .ref (gad G 75)), (5, .int (nI (6 * c)))]) rfl (by rw [hL]; decide) ?_
    refine g_aload_n C dL_law_2199 4 rfl ?_
    refine g_callViW C dL_law_2200 (c_X11_thrown _ _ _ _ _ _ _ _ _) tw1394 tw1395 tw1396 tw16 tw1397 (rv_X11 C) rfl ⟨by decide +kernel, by decide +kernel, rfl⟩ ⟨rfl, rfl⟩ (by rw [hR]; exact ⟨Nat.le_of_ble_eq_true rfl, Nat.le_of_ble_eq_true rfl⟩) (Nat.le_of_ble_eq_true rfl) (by rw [hR]; exact ⟨by show k + 1 + 0 + 0 ≤ 604801; omega, by show n + 6 + 0 + 0 ≤ 7193636; omega⟩) (fun r3 X1 M1 K1 h3 => ?_)
    obtain ⟨er3, hX1, hM1, hK1⟩ := h3
    subst X1 M1 K1
    have e3 : r3 = md_no p1 (nI (K.2.2.1 1).length) := er3.trans (by rfl)
    refine g_iload C dL_law_2203 1 rfl ?_
    refine g_icmp_eq C dL_law_2205 (tgt := 2210) (by decide) (fun q => ?_) (fun q => absurd (e3.trans (hcd.symm.trans hr1.symm)) q)
    refine g_iload C dL_law_2210 1 rfl ?_
    refine g_if_ne C dL_law_2212 (tgt := 2227) (by decide) (fun q => ?_) (fun q => absurd q (fun u => hc (hr1.symm.trans u)))
    refine g_goto C dL_law_2227 (tgt := 2415) (by decide) ?_
    exact g_sub [2, 3, 4, 5, 6, 7] rfl (kk _ _ _ _ _ _ _ _ _ _ (I.no _) ⟨by show k + 1 + 0 + 0 ≤ 100 + 2 * (c + 1) + (K.2.1 4 + K.2.1 5); omega, by show n + 6 + 0 + 0 ≤ 2000 + 520 * (c + 1) + (K.2.1 6 + K.2.1 7); omega⟩)

set_option maxHeartbeats 1000000 in
set_option maxRecDepth 100000 in
theorem lc_logged {G : MC} {b Ln c : Nat} {xs : Nat → Int32} {v z z5 z8 zs : Nat} {X M : XF} {K : KF} {k n : Nat} (E : LawG G b Ln xs) (hcL : 6 * c + 6 ≤ Ln) (I : Inv c v z z5 z8 zs X M K) (hm : rmO c K k n) (kk : LwS G b c) : GH G (WX G X M K) [(0, .ref b), (1, .ref (gad G 0)), (2, .ref (gad G 42)), (3, .ref (gad G 74)), (4, .ref (gad G 75)), (5, .int (nI (6 * c)))] k n 2230 [] := by
  obtain ⟨C, hst, hN, hX, hb, hbA, hLn, hR, hL⟩ := E
  have R := I.rel
  have hc5 : c < 512 := by omega
  have hnum := I.num (by omega)
  have hlen := I.len (by omega)
  obtain ⟨hm1, hm2⟩ := hm
  have hk2 := I.k2
  have hzk := I.zk
  have hsN := I.sN
  obtain ⟨p1, e1⟩ : ∃ p, lcc (xs (6 * c + 1)) = p := ⟨_, rfl⟩
  have h1 : isCh p1 := by rw [← e1]; exact lcc_ch _
  have hcap0 : K.2.1 0 < 2 ^ 26 := by omega
  have hcap1 : K.2.1 1 < 2 ^ 26 := by omega
  have hlen0 : (K.2.2.1 0).length < 2 ^ 26 := by omega
  have hlen1 : (K.2.2.1 1).length < 2 ^ 26 := by rw [← I.t01]; exact hlen0
  have hch1 : ∀ j : Nat, (K.2.2.1 1).getD j 0 < 128 := by rw [← I.t01]; exact I.rt.2.2
  refine g_aload_n C dL_law_2230 1 rfl ?_
  refine g_aload_n C dL_law_2231 0 rfl ?_
  refine g_iload C dL_law_2232 5 rfl ?_
  refine g_iconst C dL_law_2234 (v := 1) (by decide) ?_
  refine g_iadd C dL_law_2235 ?_
  refine g_topi (y := nI (6 * c + 1)) (nI_add (6 * c) 1) ?_
  refine g_scr C hX hb hbA (j := 6 * c + 1) (by omega) (by omega) dL_law_2236 ?_
  refine g_i2c C dL_law_2237 ?_
  refine g_topi (y := p1) e1 ?_
  refine g_callViW C dL_law_2238 (c_X10_logged _ _ _ _ _ _ _ _ _ _ hcap0 hlen0) tw530 tw531 tw532 tw1 tw533 (rv_X10 C) rfl ⟨by decide +kernel, by decide +kernel, rfl⟩ ⟨rfl, rfl⟩ (by rw [hR]; exact ⟨Nat.le_of_ble_eq_true rfl, Nat.le_of_ble_eq_true rfl⟩) (Nat.le_of_ble_eq_true rfl) (by rw [hR]; exact ⟨by show k + 0 ≤ 604801; omega, by show n + 0 ≤ 7193636; omega⟩) (fun r1 X1 M1 K1 h2_ => ?_)
  obtain ⟨er1, hX1, hM1, hK1⟩ := h2_
  subst X1 M1 K1
  refine g_aload_n C dL_law_2241 2 rfl ?_
  refine g_aload_n C dL_law_2242 0 rfl ?_
  refine g_iload C dL_law_2243 5 rfl ?_
  refine g_iconst C dL_law_2245 (v := 1) (by decide) ?_
  refine g_iadd C dL_law_2246 ?_
  refine g_topi (y := nI (6 * c + 1)) (nI_add (6 * c) 1) ?_
  refine g_scr C hX hb hbA (j := 6 * c + 1) (by omega) (by omega) dL_law_2247 ?_
  refine g_i2c C dL_law_2248 ?_
  refine g_topi (y := p1) e1 ?_
  refine g_callViW C dL_law_2249 (c_X11_logged _ _ _ _ _ _ _ _ _ _ hcap1 hlen1) tw1728 tw1729 tw1730 tw16 tw1731 (rv_X11 C) rfl ⟨by decide +kernel, by decide +kernel, rfl⟩ ⟨rfl, rfl⟩ (by rw [hR]; exact ⟨Nat.le_of_ble_eq_true rfl, Nat.le_of_ble_eq_true rfl⟩) (Nat.le_of_ble_eq_true rfl) (by rw [hR]; exact ⟨by show k + 0 + 0 ≤ 604801; omega, by show n + 0 + 0 ≤ 7193636; omega⟩) (fun r2 X1 M1 K1 h2_ => ?_)
  obtain ⟨er, hX1, hM1, hK1⟩ := h2_
  subst X1 M1 K1
  refine g_icmp_eq C dL_law_2252 (tgt := 2415) (by decide) (fun q => ?_) (fun q => absurd (er1.trans ((congrArg (fun t : List Nat => tm_of t p1 t.length) I.t01).trans er.symm)) q)
  exact g_sub [0, 1, 2, 3, 4, 5] rfl (kk _ _ _ _ _ _ _ _ _ _ (I.no 0) ⟨by show k + 0 + 0 ≤ 100 + 2 * (c + 1) + (K.2.1 4 + K.2.1 5); omega, by show n + 0 + 0 ≤ 2000 + 520 * (c + 1) + (K.2.1 6 + K.2.1 7); omega⟩)

set_option maxHeartbeats 1000000 in
set_option maxRecDepth 100000 in
theorem lc_checksum {G : MC} {b Ln c : Nat} {xs : Nat → Int32} {v z z5 z8 zs : Nat} {X M : XF} {K : KF} {k n : Nat} (E : LawG G b Ln xs) (hcL : 6 * c + 6 ≤ Ln) (I : Inv c v z z5 z8 zs X M K) (hm : rmO c K k n) (kk : LwS G b c) : GH G (WX G X M K) [(0, .ref b), (1, .ref (gad G 0)), (2, .ref (gad G 42)), (3, .ref (gad G 74)), (4, .ref (gad G 75)), (5, .int (nI (6 * c)))] k n 2257 [] := by
  obtain ⟨C, hst, hN, hX, hb, hbA, hLn, hR, hL⟩ := E
  have R := I.rel
  have hc5 : c < 512 := by omega
  have hnum := I.num (by omega)
  have hlen := I.len (by omega)
  obtain ⟨hm1, hm2⟩ := hm
  have hk2 := I.k2
  have hzk := I.zk
  have hsN := I.sN
  have hcap0 : K.2.1 0 < 2 ^ 26 := by omega
  have hcap1 : K.2.1 1 < 2 ^ 26 := by omega
  have hlen0 : (K.2.2.1 0).length < 2 ^ 26 := by omega
  have hlen1 : (K.2.2.1 1).length < 2 ^ 26 := by rw [← I.t01]; exact hlen0
  have hch1 : ∀ j : Nat, (K.2.2.1 1).getD j 0 < 128 := by rw [← I.t01]; exact I.rt.2.2
  refine g_aload_n C dL_law_2257 1 rfl ?_
  refine g_callVlW C dL_law_2258 (c_X10_checksum _ _ _ _ _ _ _ _ _ _ R.x6 R.l6 hcap0 hlen0) tw551 tw552 tw553 tw1 tw554 (rv_X10 C) rfl ⟨by decide +kernel, by decide +kernel, rfl⟩ ⟨rfl, rfl⟩ (by rw [hR]; exact ⟨Nat.le_of_ble_eq_true rfl, Nat.le_of_ble_eq_true rfl⟩) (Nat.le_of_ble_eq_true rfl) (by rw [hR]; exact ⟨by show k + 0 ≤ 604801; omega, by show n + 0 ≤ 7193636; omega⟩) (fun r1 X1 M1 K1 h2_ => ?_)
  obtain ⟨er1, hX1, hM1, hK1⟩ := h2_
  subst X1 M1 K1
  refine g_aload_n C dL_law_2261 2 rfl ?_
  refine g_callVlW C dL_law_2262 (c_X11_checksum _ _ _ _ _ _ _ _ _ _ R.m6 R.l6 hcap1 hlen1) tw1732 tw1733 tw1734 tw16 tw1735 (rv_X11 C) rfl ⟨by decide +kernel, by decide +kernel, rfl⟩ ⟨rfl, rfl⟩ (by rw [hR]; exact ⟨Nat.le_of_ble_eq_true rfl, Nat.le_of_ble_eq_true rfl⟩) (Nat.le_of_ble_eq_true rfl) (by rw [hR]; exact ⟨by show k + 0 + 0 ≤ 604801; omega, by show n + 0 + 0 ≤ 7193636; omega⟩) (fun r2 X1 M1 K1 h2_ => ?_)
  obtain ⟨er, hX1, hM1, hK1⟩ := h2_
  subst X1 M1 K1
  refine g_lcmpe C (er1.trans (((q_sum R I.r45 _).trans (by rw [I.t01])).trans er.symm)) dL_law_2265 ?_
  refine g_if_eq C dL_law_2266 (tgt := 2415) (by decide) (fun q => ?_) (fun q => absurd (by decide) q)
  exact g_sub [0, 1, 2, 3, 4, 5] rfl (kk _ _ _ _ _ _ _ _ _ _ (I.no 0) ⟨by show k + 0 + 0 ≤ 100 + 2 * (c + 1) + (K.2.1 4 + K.2.1 5); omega, by show n + 0 + 0 ≤ 2000 + 520 * (c + 1) + (K.2.1 6 + K.2.1 7); omega⟩)

set_option maxHeartbeats 1000000 in
set_option maxRecDepth 100000 in
theorem lc_metShare {G : MC} {b Ln c : Nat} {xs : Nat → Int32} {v z z5 z8 zs : Nat} {X M : XF} {K : KF} {k n : Nat} (E : LawG G b Ln xs) (hcL : 6 * c + 6 ≤ Ln) (I : Inv c v z z5 z8 zs X M K) (hm : rmO c K k n) (kk : LwS G b c) : GH G (WX G X M K) [(0, .ref b), (1, .ref (gad G 0)), (2, .ref (gad G 42)), (3, .ref (gad G 74)), (4, .ref (gad G 75)), (5, .int (nI (6 * c)))] k n 2271 [] := by
  obtain ⟨C, hst, hN, hX, hb, hbA, hLn, hR, hL⟩ := E
  have R := I.rel
  have hc5 : c < 512 := by omega
  have hnum := I.num (by omega)
  have hlen := I.len (by omega)
  obtain ⟨hm1, hm2⟩ := hm
  have hk2 := I.k2
  have hzk := I.zk
  have hsN := I.sN
  have hcd : xk_no (nI z) = xk_no (nI z) := by rfl
  by_cases hc : xk_no (nI z) = 0
  · have hx : xk_no (nI z) = 0 := hcd.symm.trans hc
    have nz : ¬ nI z = 0 := fun q => by rw [xk_no, if_pos q] at hc; exact absurd hc (by decide)
    refine g_aload_n C dL_law_2271 1 rfl ?_
    refine g_aload C dL_law_2272 4 rfl ?_
    refine g_callH C hN (c_L_metShare _ _ _ _ _ _ _ _ _ _ R.x6 R.l6 R.ox hst) tw1195 tw1196 tw0 tw1197 rfl ⟨by decide +kernel, by decide +kernel, rfl⟩ ⟨rfl, rfl⟩ (by rw [hR]; exact ⟨Nat.le_of_ble_eq_true rfl, Nat.le_of_ble_eq_true rfl⟩) (Nat.le_of_ble_eq_true rfl) dL_law_2274 (by rw [hR]; exact ⟨by show k + 1 ≤ 604801; omega, by show n + 6 ≤ 7193636; omega⟩) (fun r1 X1 M1 K1 h1_ => ?_)
    obtain ⟨-, rfl, hX1, hM1, hK1⟩ := h1_.resolve_right (fun q => q.1 hc)
    subst X1 M1 K1
    refine g_istore C dL_law_2277 (L' := [(6, .int (0)), (0, .ref b), (1, .ref (gad G 0)), (2, .ref (gad G 42)), (3, .ref (gad G 74)), (4, .ref (gad G 75)), (5, .int (nI (6 * c)))]) rfl (by rw [hL]; decide) ?_
    refine g_aload_n C dL_law_2279 3 rfl ?_
    refine g_callVfW C dL_law_2280 (c_X11_metShare _ _ _ _ _ _ _ _ _ _ R.m6 R.l6 R.om _ R.xs hzk hk2 R.n57) tw1738 tw1739 tw1740 tw16 tw1741 (rv_X11 C) rfl ⟨by decide +kernel, by decide +kernel, rfl⟩ ⟨rfl, rfl⟩ (by rw [hR]; exact ⟨Nat.le_of_ble_eq_true rfl, Nat.le_of_ble_eq_true rfl⟩) (Nat.le_of_ble_eq_true rfl) (by rw [hR]; exact ⟨by show k + 1 + 0 ≤ 604801; omega, by show n + 6 + 0 ≤ 7193636; omega⟩) (fun r2 X1 M1 K1 h2_ => ?_)
    obtain ⟨er, hX1, hM1, hK1⟩ := h2_
    rw [if_neg nz] at er hM1
    subst X1 M1 K1
    have hct : ct_n (fun j => cl_met X j) z = ct_n (fun j => md_met M (kD K (FP.f2d (fq (ct_n (fun j => cl_met X j) z) (nI z)))) zs j) z := ct_eq z (fun j hj => q_met _ R hj)
    refine g_fstore C dL_law_2283 (L' := [(7, .float (r2)), (6, .int (0)), (0, .ref b), (1, .ref (gad G 0)), (2, .ref (gad G 42)), (3, .ref (gad G 74)), (4, .ref (gad G 75)), (5, .int (nI (6 * c)))]) rfl (by rw [hL]; decide) ?_
    refine g_aload_n C dL_law_2285 4 rfl ?_
    refine g_callViW C dL_law_2286 (c_X11_thrown _ _ _ _ _ _ _ _ _) tw1394 tw1395 tw1396 tw16 tw1397 (rv_X11 C) rfl ⟨by decide +kernel, by decide +kernel, rfl⟩ ⟨rfl, rfl⟩ (by rw [hR]; exact ⟨Nat.le_of_ble_eq_true rfl, Nat.le_of_ble_eq_true rfl⟩) (Nat.le_of_ble_eq_true rfl) (by rw [hR]; exact ⟨by show k + 1 + 0 + 0 ≤ 604801; omega, by show n + 6 + 0 + 0 ≤ 7193636; omega⟩) (fun r3 X1 M1 K1 h3 => ?_)
    obtain ⟨er3, hX1, hM1, hK1⟩ := h3
    subst X1 M1 K1
    have e3 : r3 = 0 := er3.trans (by rfl)
    refine g_iload C dL_law_2289 1 rfl ?_
    refine g_icmp_eq C dL_law_2291 (tgt := 2296) (by decide) (fun q => ?_) (fun q => absurd e3 q)
    refine g_iload C dL_law_2296 1 rfl ?_
    refine g_if_ne C dL_law_2298 (tgt := 2334) (by decide) (fun q => absurd q (by decide)) (fun q => ?_)
    refine g_aload C dL_law_2301 6 rfl ?_
    refine g_iconst C dL_law_2303 (v := 0) (by decide) ?_
    refine al_75 C dL_law_2304 ?_
    refine g_topd (y := (FP.f2d (fq (ct_n (fun j => cl_met X j) z) (nI z)))) (kD_at _ _) ?_
    refine g_fload C dL_law_2305 0 rfl ?_
    refine g_f2d C dL_law_2307 (by rw [er]; exact (ct_q R.l6 nz).2.1) ?_
    refine g_dcmpe C ((congrArg (fun t => FP.dcmp (FP.f2d (fq t (nI z))) (FP.f2d r2)) hct).trans (by rw [er]; exact (ct_q R.l6 nz).2.2)) dL_law_2308 ?_
    refine g_if_eq C dL_law_2309 (tgt := 2334) (by decide) (fun q => ?_) (fun q => absurd (by decide) q)
    refine g_goto C dL_law_2334 (tgt := 2415) (by decide) ?_
    exact g_sub [2, 3, 4, 5, 6, 7] rfl (kk _ _ _ _ _ _ _ _ _ _ (I.stayD _ 0) ⟨by show k + 1 + 0 + 0 ≤ 100 + 2 * (c + 1) + (K.2.1 4 + K.2.1 5); omega, by show n + 6 + 0 + 0 ≤ 2000 + 520 * (c + 1) + (K.2.1 6 + K.2.1 7); omega⟩)
  · have hx : ¬ xk_no (nI z) = 0 := fun q => hc (hcd.trans q)
    have ez : nI z = 0 := Classical.byContradiction (fun q => hc (if_neg q))
    refine g_aload_n C dL_law_2271 1 rfl ?_
    refine g_aload C dL_law_2272 4 rfl ?_
    refine g_callH C hN (c_L_metShare _ _ _ _ _ _ _ _ _ _ R.x6 R.l6 R.ox hst) tw1195 tw1196 tw0 tw1197 rfl ⟨by decide +kernel, by decide +kernel, rfl⟩ ⟨rfl, rfl⟩ (by rw [hR]; exact ⟨Nat.le_of_ble_eq_true rfl, Nat.le_of_ble_eq_true rfl⟩) (Nat.le_of_ble_eq_true rfl) dL_law_2274 (by rw [hR]; exact ⟨by show k + 1 ≤ 604801; omega, by show n + 6 ≤ 7193636; omega⟩) (fun r1 X1 M1 K1 h1_ => ?_)
    obtain ⟨-, hr1, hX1, hM1, hK1⟩ := h1_.resolve_left (fun q => hc q.1)
    subst X1 M1 K1
    refine g_istore C dL_law_2277 (L' := [(6, .int (r1)), (0, .ref b), (1, .ref (gad G 0)), (2, .ref (gad G 42)), (3, .ref (gad G 74)), (4, .ref (gad G 75)), (5, .int (nI (6 * c)))]) rfl (by rw [hL]; decide) ?_
    refine g_aload_n C dL_law_2279 3 rfl ?_
    refine g_callVfW C dL_law_2280 (c_X11_metShare _ _ _ _ _ _ _ _ _ _ R.m6 R.l6 R.om _ R.xs hzk hk2 R.n57) tw1738 tw1739 tw1740 tw16 tw1741 (rv_X11 C) rfl ⟨by decide +kernel, by decide +kernel, rfl⟩ ⟨rfl, rfl⟩ (by rw [hR]; exact ⟨Nat.le_of_ble_eq_true rfl, Nat.le_of_ble_eq_true rfl⟩) (Nat.le_of_ble_eq_true rfl) (by rw [hR]; exact ⟨by show k + 1 + 0 ≤ 604801; omega, by show n + 6 + 0 ≤ 7193636; omega⟩) (fun r2 X1 M1 K1 h2_ => ?_)
    obtain ⟨er, hX1, hM1, hK1⟩ := h2_
    rw [if_pos ez] at er hM1
    subst X1 M1 K1
    refine g_fstore C dL_law_2283 (L' := [(7, .float (r2)), (6, .int (r1)), (0, .ref b), (1, .ref (gad G 0)), (2, .ref (gad G 42)), (3, .ref (gad G 74)), (4, .ref (gad G 75)), (5, .int (nI (6 * c)))]) rfl (by rw [hL]; decide) ?_
    refine g_aload_n C dL_law_2285 4 rfl ?_
    refine g_callViW C dL_law_2286 (c_X11_thrown _ _ _ _ _ _ _ _ _) tw1394 tw1395 tw1396 tw16 tw1397 (rv_X11 C) rfl ⟨by decide +kernel, by decide +kernel, rfl⟩ ⟨rfl, rfl⟩ (by rw [hR]; exact ⟨Nat.le_of_ble_eq_true rfl, Nat.le_of_ble_eq_true rfl⟩) (Nat.le_of_ble_eq_true rfl) (by rw [hR]; exact ⟨by show k + 1 + 0 + 0 ≤ 604801; omega, by show n + 6 + 0 + 0 ≤ 7193636; omega⟩) (fun r3 X1 M1 K1 h3 => ?_)
    obtain ⟨er3, hX1, hM1, hK1⟩ := h3
    subst X1 M1 K1
    have e3 : r3 = xk_no (nI z) := er3.trans (show (1 : Int32) = _ from (if_pos ez).symm)
    refine g_iload C dL_law_2289 1 rfl ?_
    refine g_icmp_eq C dL_law_2291 (tgt := 2296) (by decide) (fun q => ?_) (fun q => absurd (e3.trans (hcd.symm.trans hr1.symm)) q)
    refine g_iload C dL_law_2296 1 rfl ?_
    refine g_if_ne C dL_law_2298 (tgt := 2334) (by decide) (fun q => ?_) (fun q => absurd q (fun u => hc (hr1.symm.trans u)))
    refine g_goto C dL_law_2334 (tgt := 2415) (by decide) ?_
    exact g_sub [2, 3, 4, 5, 6, 7] rfl (kk _ _ _ _ _ _ _ _ _ _ (I.no 1) ⟨by show k + 1 + 0 + 0 ≤ 100 + 2 * (c + 1) + (K.2.1 4 + K.2.1 5); omega, by show n + 6 + 0 + 0 ≤ 2000 + 520 * (c + 1) + (K.2.1 6 + K.2.1 7); omega⟩)

set_option maxHeartbeats 1000000 in
set_option maxRecDepth 100000 in
theorem lc_meanFill {G : MC} {b Ln c : Nat} {xs : Nat → Int32} {v z z5 z8 zs : Nat} {X M : XF} {K : KF} {k n : Nat} (E : LawG G b Ln xs) (hcL : 6 * c + 6 ≤ Ln) (I : Inv c v z z5 z8 zs X M K) (hm : rmO c K k n) (kk : LwS G b c) : GH G (WX G X M K) [(0, .ref b), (1, .ref (gad G 0)), (2, .ref (gad G 42)), (3, .ref (gad G 74)), (4, .ref (gad G 75)), (5, .int (nI (6 * c)))] k n 2337 [] := by
  obtain ⟨C, hst, hN, hX, hb, hbA, hLn, hR, hL⟩ := E
  have R := I.rel
  have hc5 : c < 512 := by omega
  have hnum := I.num (by omega)
  have hlen := I.len (by omega)
  obtain ⟨hm1, hm2⟩ := hm
  have hk2 := I.k2
  have hzk := I.zk
  have hsN := I.sN
  have hcd : xk_no (tk_cnt (X 2) 3) = xk_no (tk_cnt (M 43) 3) := by rw [R.e2]
  by_cases hc : xk_no (tk_cnt (X 2) 3) = 0
  · have hx : xk_no (tk_cnt (M 43) 3) = 0 := hcd.symm.trans hc
    have nz : ¬ tk_cnt (M 43) 3 = 0 := fun q => by rw [xk_no, if_pos q] at hx; exact absurd hx (by decide)
    refine g_aload_n C dL_law_2337 1 rfl ?_
    refine g_aload C dL_law_2338 4 rfl ?_
    refine g_callH C hN (c_L_meanFill _ _ _ _ _ _ _ _ _ R.p5 hst) tw1219 tw1220 tw0 tw1221 rfl ⟨by decide +kernel, by decide +kernel, rfl⟩ ⟨rfl, rfl⟩ (by rw [hR]; exact ⟨Nat.le_of_ble_eq_true rfl, Nat.le_of_ble_eq_true rfl⟩) (Nat.le_of_ble_eq_true rfl) dL_law_2340 (by rw [hR]; exact ⟨by show k + 1 ≤ 604801; omega, by show n + 6 ≤ 7193636; omega⟩) (fun r1 X1 M1 K1 h1_ => ?_)
    obtain ⟨-, rfl, hX1, hM1, hK1⟩ := h1_.resolve_right (fun q => q.1 hc)
    subst X1 M1 K1
    refine g_istore C dL_law_2343 (L' := [(6, .int (0)), (0, .ref b), (1, .ref (gad G 0)), (2, .ref (gad G 42)), (3, .ref (gad G 74)), (4, .ref (gad G 75)), (5, .int (nI (6 * c)))]) rfl (by rw [hL]; decide) ?_
    refine g_aload_n C dL_law_2345 3 rfl ?_
    refine g_callVdW C dL_law_2346 (c_X11_meanFill _ _ _ _ _ _ _ _ _ R.p46) tw1742 tw1743 tw1744 tw16 tw1745 (rv_X11 C) rfl ⟨by decide +kernel, by decide +kernel, rfl⟩ ⟨rfl, rfl⟩ (by rw [hR]; exact ⟨Nat.le_of_ble_eq_true rfl, Nat.le_of_ble_eq_true rfl⟩) (Nat.le_of_ble_eq_true rfl) (by rw [hR]; exact ⟨by show k + 1 + 0 ≤ 604801; omega, by show n + 6 + 0 ≤ 7193636; omega⟩) (fun r2 X1 M1 K1 h2_ => ?_)
    obtain ⟨er, hX1, hM1, hK1⟩ := h2_
    rw [if_neg nz] at er hM1
    subst X1 M1 K1
    refine g_dstore C dL_law_2349 (L' := [(7, .double (r2)), (6, .int (0)), (0, .ref b), (1, .ref (gad G 0)), (2, .ref (gad G 42)), (3, .ref (gad G 74)), (4, .ref (gad G 75)), (5, .int (nI (6 * c)))]) rfl (by rw [hL]; decide) ?_
    refine g_aload_n C dL_law_2351 4 rfl ?_
    refine g_callViW C dL_law_2352 (c_X11_thrown _ _ _ _ _ _ _ _ _) tw1394 tw1395 tw1396 tw16 tw1397 (rv_X11 C) rfl ⟨by decide +kernel, by decide +kernel, rfl⟩ ⟨rfl, rfl⟩ (by rw [hR]; exact ⟨Nat.le_of_ble_eq_true rfl, Nat.le_of_ble_eq_true rfl⟩) (Nat.le_of_ble_eq_true rfl) (by rw [hR]; exact ⟨by show k + 1 + 0 + 0 ≤ 604801; omega, by show n + 6 + 0 + 0 ≤ 7193636; omega⟩) (fun r3 X1 M1 K1 h3 => ?_)
    obtain ⟨er3, hX1, hM1, hK1⟩ := h3
    subst X1 M1 K1
    have e3 : r3 = 0 := er3.trans (by rfl)
    refine g_iload C dL_law_2355 1 rfl ?_
    refine g_icmp_eq C dL_law_2357 (tgt := 2362) (by decide) (fun q => ?_) (fun q => absurd e3 q)
    refine g_iload C dL_law_2362 1 rfl ?_
    refine g_if_ne C dL_law_2364 (tgt := 2399) (by decide) (fun q => absurd q (by decide)) (fun q => ?_)
    refine g_aload C dL_law_2367 6 rfl ?_
    refine g_iconst C dL_law_2369 (v := 0) (by decide) ?_
    refine al_75 C dL_law_2370 ?_
    refine g_topd (y := (FP.ddiv (fs_n (X 5) (X 2) 3) (FP.i2d (tk_cnt (X 2) 3)))) (kD_at _ _) ?_
    refine g_dload C dL_law_2371 0 rfl ?_
    refine g_dcmpe C (by rw [er, R.e5, R.e2]; exact dk_eq (dk_mean R.p46 nz)) dL_law_2373 ?_
    refine g_if_eq C dL_law_2374 (tgt := 2399) (by decide) (fun q => ?_) (fun q => absurd (by decide) q)
    refine g_goto C dL_law_2399 (tgt := 2415) (by decide) ?_
    exact g_sub [2, 3, 4, 5, 6, 7] rfl (kk _ _ _ _ _ _ _ _ _ _ (I.stayD _ 0) ⟨by show k + 1 + 0 + 0 ≤ 100 + 2 * (c + 1) + (K.2.1 4 + K.2.1 5); omega, by show n + 6 + 0 + 0 ≤ 2000 + 520 * (c + 1) + (K.2.1 6 + K.2.1 7); omega⟩)
  · have hx : ¬ xk_no (tk_cnt (M 43) 3) = 0 := fun q => hc (hcd.trans q)
    have ez : tk_cnt (M 43) 3 = 0 := Classical.byContradiction (fun q => hx (if_neg q))
    refine g_aload_n C dL_law_2337 1 rfl ?_
    refine g_aload C dL_law_2338 4 rfl ?_
    refine g_callH C hN (c_L_meanFill _ _ _ _ _ _ _ _ _ R.p5 hst) tw1219 tw1220 tw0 tw1221 rfl ⟨by decide +kernel, by decide +kernel, rfl⟩ ⟨rfl, rfl⟩ (by rw [hR]; exact ⟨Nat.le_of_ble_eq_true rfl, Nat.le_of_ble_eq_true rfl⟩) (Nat.le_of_ble_eq_true rfl) dL_law_2340 (by rw [hR]; exact ⟨by show k + 1 ≤ 604801; omega, by show n + 6 ≤ 7193636; omega⟩) (fun r1 X1 M1 K1 h1_ => ?_)
    obtain ⟨-, hr1, hX1, hM1, hK1⟩ := h1_.resolve_left (fun q => hc q.1)
    subst X1 M1 K1
    refine g_istore C dL_law_2343 (L' := [(6, .int (r1)), (0, .ref b), (1, .ref (gad G 0)), (2, .ref (gad G 42)), (3, .ref (gad G 74)), (4, .ref (gad G 75)), (5, .int (nI (6 * c)))]) rfl (by rw [hL]; decide) ?_
    refine g_aload_n C dL_law_2345 3 rfl ?_
    refine g_callVdW C dL_law_2346 (c_X11_meanFill _ _ _ _ _ _ _ _ _ R.p46) tw1742 tw1743 tw1744 tw16 tw1745 (rv_X11 C) rfl ⟨by decide +kernel, by decide +kernel, rfl⟩ ⟨rfl, rfl⟩ (by rw [hR]; exact ⟨Nat.le_of_ble_eq_true rfl, Nat.le_of_ble_eq_true rfl⟩) (Nat.le_of_ble_eq_true rfl) (by rw [hR]; exact ⟨by show k + 1 + 0 ≤ 604801; omega, by show n + 6 + 0 ≤ 7193636; omega⟩) (fun r2 X1 M1 K1 h2_ => ?_)
    obtain ⟨er, hX1, hM1, hK1⟩ := h2_
    rw [if_pos ez] at er hM1
    subst X1 M1 K1
    refine g_dstore C dL_law_2349 (L' := [(7, .double (r2)), (6, .int (r1)), (0, .ref b), (1, .ref (gad G 0)), (2, .ref (gad G 42)), (3, .ref (gad G 74)), (4, .ref (gad G 75)), (5, .int (nI (6 * c)))]) rfl (by rw [hL]; decide) ?_
    refine g_aload_n C dL_law_2351 4 rfl ?_
    refine g_callViW C dL_law_2352 (c_X11_thrown _ _ _ _ _ _ _ _ _) tw1394 tw1395 tw1396 tw16 tw1397 (rv_X11 C) rfl ⟨by decide +kernel, by decide +kernel, rfl⟩ ⟨rfl, rfl⟩ (by rw [hR]; exact ⟨Nat.le_of_ble_eq_true rfl, Nat.le_of_ble_eq_true rfl⟩) (Nat.le_of_ble_eq_true rfl) (by rw [hR]; exact ⟨by show k + 1 + 0 + 0 ≤ 604801; omega, by show n + 6 + 0 + 0 ≤ 7193636; omega⟩) (fun r3 X1 M1 K1 h3 => ?_)
    obtain ⟨er3, hX1, hM1, hK1⟩ := h3
    subst X1 M1 K1
    have e3 : r3 = xk_no (tk_cnt (M 43) 3) := er3.trans (show (1 : Int32) = _ from (if_pos ez).symm)
    refine g_iload C dL_law_2355 1 rfl ?_
    refine g_icmp_eq C dL_law_2357 (tgt := 2362) (by decide) (fun q => ?_) (fun q => absurd (e3.trans (hcd.symm.trans hr1.symm)) q)
    refine g_iload C dL_law_2362 1 rfl ?_
    refine g_if_ne C dL_law_2364 (tgt := 2399) (by decide) (fun q => ?_) (fun q => absurd q (fun u => hc (hr1.symm.trans u)))
    refine g_goto C dL_law_2399 (tgt := 2415) (by decide) ?_
    exact g_sub [2, 3, 4, 5, 6, 7] rfl (kk _ _ _ _ _ _ _ _ _ _ (I.no 1) ⟨by show k + 1 + 0 + 0 ≤ 100 + 2 * (c + 1) + (K.2.1 4 + K.2.1 5); omega, by show n + 6 + 0 + 0 ≤ 2000 + 520 * (c + 1) + (K.2.1 6 + K.2.1 7); omega⟩)

set_option maxHeartbeats 1000000 in
set_option maxRecDepth 100000 in
theorem lc_isSound {G : MC} {b Ln c : Nat} {xs : Nat → Int32} {v z z5 z8 zs : Nat} {X M : XF} {K : KF} {k n : Nat} (E : LawG G b Ln xs) (hcL : 6 * c + 6 ≤ Ln) (I : Inv c v z z5 z8 zs X M K) (hm : rmO c K k n) (kk : LwS G b c) : GH G (WX G X M K) [(0, .ref b), (1, .ref (gad G 0)), (2, .ref (gad G 42)), (3, .ref (gad G 74)), (4, .ref (gad G 75)), (5, .int (nI (6 * c)))] k n 2402 [] := by
  obtain ⟨C, hst, hN, hX, hb, hbA, hLn, hR, hL⟩ := E
  have R := I.rel
  have hc5 : c < 512 := by omega
  have hnum := I.num (by omega)
  have hlen := I.len (by omega)
  obtain ⟨hm1, hm2⟩ := hm
  have hk2 := I.k2
  have hzk := I.zk
  have hsN := I.sN
  have hcap0 : K.2.1 0 < 2 ^ 26 := by omega
  have hcap1 : K.2.1 1 < 2 ^ 26 := by omega
  have hlen0 : (K.2.2.1 0).length < 2 ^ 26 := by omega
  have hlen1 : (K.2.2.1 1).length < 2 ^ 26 := by rw [← I.t01]; exact hlen0
  have hch1 : ∀ j : Nat, (K.2.2.1 1).getD j 0 < 128 := by rw [← I.t01]; exact I.rt.2.2
  refine g_aload_n C dL_law_2402 1 rfl ?_
  refine g_callViW C dL_law_2403 (c_X10_isSound _ _ _ _ _ _ _ _ _ R.le52 hcap0 hlen0) tw557 tw558 tw559 tw1 tw560 (rv_X10 C) rfl ⟨by decide +kernel, by decide +kernel, rfl⟩ ⟨rfl, rfl⟩ (by rw [hR]; exact ⟨Nat.le_of_ble_eq_true rfl, Nat.le_of_ble_eq_true rfl⟩) (Nat.le_of_ble_eq_true rfl) (by rw [hR]; exact ⟨by show k + 0 ≤ 604801; omega, by show n + 0 ≤ 7193636; omega⟩) (fun r1 X1 M1 K1 h2_ => ?_)
  obtain ⟨er1, hX1, hM1, hK1⟩ := h2_
  subst X1 M1 K1
  refine g_aload_n C dL_law_2406 2 rfl ?_
  refine g_callViW C dL_law_2407 (c_X11_isSound _ _ _ _ _ _ _ _ _ ) tw1746 tw1747 tw1748 tw16 tw1749 (rv_X11 C) rfl ⟨by decide +kernel, by decide +kernel, rfl⟩ ⟨rfl, rfl⟩ (by rw [hR]; exact ⟨Nat.le_of_ble_eq_true rfl, Nat.le_of_ble_eq_true rfl⟩) (Nat.le_of_ble_eq_true rfl) (by rw [hR]; exact ⟨by show k + 0 + 0 ≤ 604801; omega, by show n + 0 + 0 ≤ 7193636; omega⟩) (fun r2 X1 M1 K1 h2_ => ?_)
  obtain ⟨er, hX1, hM1, hK1⟩ := h2_
  subst X1 M1 K1
  refine g_icmp_eq C dL_law_2410 (tgt := 2415) (by decide) (fun q => ?_) (fun q => absurd (er1.trans ((q_sound R I.rt).trans er.symm)) q)
  exact g_sub [0, 1, 2, 3, 4, 5] rfl (kk _ _ _ _ _ _ _ _ _ _ (I.no 0) ⟨by show k + 0 + 0 ≤ 100 + 2 * (c + 1) + (K.2.1 4 + K.2.1 5); omega, by show n + 0 + 0 ≤ 2000 + 520 * (c + 1) + (K.2.1 6 + K.2.1 7); omega⟩)

