/-! the law: a second -/
theorem ne1 (x : Int32) : ¬ x = x + 1 := fun q => by
  have h := congrArg (fun y : Int32 => y.toBitVec.toNat) q
  simp only [Int32.toBitVec_add, BitVec.toNat_add] at h
  have h1 := x.toBitVec.isLt
  have h2 : (1 : Int32).toBitVec.toNat = 1 := by decide
  rw [h2] at h
  omega
theorem pass_ok {v : Nat} (h : v ≤ 70) : xk_pass (nI v) 1 = 0 := by
  have e : ∀ v : Fin 71, xk_pass (nI v.val) 1 = 0 := by decide +kernel
  exact e ⟨v, by omega⟩

set_option maxHeartbeats 1000000 in
set_option maxRecDepth 100000 in
theorem pt_115_115 {G : MC} (C : Cx G cL_passes yL_passes.cls) (hst : (gl G).stackTraces = false) (hR : gR G = { frames := 17, cells := 13, slots := 32015, locals := 461 }) (hL : gL G = 12) (hr : (gme G).sig.returnType = some .boolean) {e v z5 : Nat} {Z M : XF} {K : KF} (I : IV (gsa G) e (v + 1) z5 Z M K) (at9 hd : Int32) (ln : Nat) (hln : ln ≤ 2000) (hb : Z 118 0 = 115) (hl : (K.2.2.1 0).length = ln)  (hQ : gQ G = MQ (gbe G) (QiW (gD G) (gcy G) (gA G) (gad G) (fun r X1 M1 K1 => r = 1 ∧ IV (gsa G) e (v + 1) z5 X1 M1 K1 ∧ ¬ X1 118 0 = 45)) (gas G) (gs G) 13 32015 (gA G)) : GH G (WX G Z M K) [(0, .ref (gad G 42)), (1, .ref (gsa G 900)), (2, .int 115), (3, .int (nI v)), (4, .int at9), (5, .int hd), (6, .int (nI ln)), (9, .int 1)] 12 32009 219 [] := by
  have hrc : (gR G).cells = 13 := by rw [hR]
  have hrs : (gR G).slots = 32015 := by rw [hR]
  have hlen := I.len
  have hnum := I.num
  refine g_aload_n C dL_passes_219 0 rfl ?_
  refine gf_L_o C tw363 dL_passes_220 ?_
  refine g_callViW C dL_passes_223 (c_X10_state _ _ _ _ _ _ _ _ _ I.ch118) tw1141 tw1142 tw1143 tw1 tw1144 (rv_X10 C) rfl ⟨by decide +kernel, by decide +kernel, rfl⟩ ⟨rfl, rfl⟩ (by rw [hR]; exact ⟨Nat.le_of_ble_eq_true rfl, Nat.le_of_ble_eq_true rfl⟩) (Nat.le_of_ble_eq_true rfl) (by omega) (fun r_1 X1 M1 K1 h_2 => ?_)
  obtain ⟨rfl, hX1, hM1, hK1⟩ := h_2
  subst X1 M1 K1
  refine g_topi (y := 115) hb ?_
  refine g_istore C dL_passes_226 (L' := [(10, .int 115), (0, .ref (gad G 42)), (1, .ref (gsa G 900)), (2, .int 115), (3, .int (nI v)), (4, .int at9), (5, .int hd), (6, .int (nI ln)), (9, .int 1)]) rfl (by rw [hL]; decide) ?_
  refine g_iload C dL_passes_228 8 rfl ?_
  refine g_if_eq C dL_passes_230 (tgt := 268) (by decide) (fun c_230 => absurd c_230 (by decide)) (fun c_230 => ?_)
  refine g_aload_n C dL_passes_233 1 rfl ?_
  refine gf_L_o C tw363 dL_passes_234 ?_
  refine g_callViW C dL_passes_237 (c_X10_logLength _ _ _ _ _ _ _ _ _ (by omega) (by omega)) tw1165 tw1166 tw1167 tw1 tw1168 (rv_X10 C) rfl ⟨by decide +kernel, by decide +kernel, rfl⟩ ⟨rfl, rfl⟩ (by rw [hR]; exact ⟨Nat.le_of_ble_eq_true rfl, Nat.le_of_ble_eq_true rfl⟩) (Nat.le_of_ble_eq_true rfl) (by omega) (fun r_3 X1 M1 K1 h_4 => ?_)
  obtain ⟨rfl, hX1, hM1, hK1⟩ := h_4
  subst X1 M1 K1
  refine g_iload C dL_passes_240 7 rfl ?_
  refine g_icmp_le C dL_passes_242 (tgt := 249) (by decide) (fun c_242 => ?_) (fun c_242 => absurd (nI_le (Nat.le_of_eq hl) (by omega)) c_242)
  refine g_iconst C dL_passes_249 (v := 0) (by decide) ?_
  refine g_iload C dL_passes_250 0 rfl ?_
  refine g_iload_n C dL_passes_252 3 rfl ?_
  refine g_icmp_eq C dL_passes_253 (tgt := 260) (by decide) (fun c_253 => ?_) (fun c_253 => absurd (by decide) c_253)
  refine g_iconst C dL_passes_260 (v := 0) (by decide) ?_
  refine g_icmp_ne C dL_passes_261 (tgt := 268) (by decide) (fun c_261 => absurd c_261 (by decide)) (fun c_261 => ?_)
  refine g_iconst C dL_passes_264 (v := 1) (by decide) ?_
  refine g_goto C dL_passes_265 (tgt := 269) (by decide) ?_
  refine g_istore C dL_passes_269 (L' := [(9, .int 1), (10, .int 115), (0, .ref (gad G 42)), (1, .ref (gsa G 900)), (2, .int 115), (3, .int (nI v)), (4, .int at9), (5, .int hd), (6, .int (nI ln))]) rfl (by rw [hL]; decide) ?_
  refine g_iload_n C dL_passes_271 4 rfl ?_
  refine g_bipush C dL_passes_272 (v := 99) (by decide) ?_
  refine g_icmp_eq C dL_passes_274 (tgt := 333) (by decide) (fun c_274 => absurd c_274 (by decide)) (fun c_274 => ?_)
  refine g_iload_n C dL_passes_277 4 rfl ?_
  refine g_bipush C dL_passes_278 (v := 104) (by decide) ?_
  refine g_icmp_eq C dL_passes_280 (tgt := 333) (by decide) (fun c_280 => absurd c_280 (by decide)) (fun c_280 => ?_)
  refine g_iload C dL_passes_283 0 rfl ?_
  refine g_if_eq C dL_passes_285 (tgt := 331) (by decide) (fun c_285 => absurd c_285 (by decide)) (fun c_285 => ?_)
  refine g_iload_n C dL_passes_288 4 rfl ?_
  refine g_bipush C dL_passes_289 (v := 102) (by decide) ?_
  refine g_icmp_eq C dL_passes_291 (tgt := 300) (by decide) (fun c_291 => absurd c_291 (by decide)) (fun c_291 => ?_)
  refine g_iload C dL_passes_294 1 rfl ?_
  refine g_iload_n C dL_passes_296 4 rfl ?_
  refine g_icmp_ne C dL_passes_297 (tgt := 331) (by decide) (fun c_297 => absurd c_297 (by decide)) (fun c_297 => ?_)
  refine g_iload_n C dL_passes_300 4 rfl ?_
  refine g_bipush C dL_passes_301 (v := 102) (by decide) ?_
  refine g_icmp_ne C dL_passes_303 (tgt := 327) (by decide) (fun c_303 => ?_) (fun c_303 => absurd c_303 (by decide))
  refine g_iconst C dL_passes_327 (v := 1) (by decide) ?_
  refine g_goto C dL_passes_328 (tgt := 332) (by decide) ?_
  refine g_zretW C hr (by decide) hQ (by omega) (by omega) dL_passes_332 ?_
  exact ⟨rfl, I, (by rw [hb]; decide)⟩

set_option maxHeartbeats 1000000 in
set_option maxRecDepth 100000 in
theorem pt_102_102 {G : MC} (C : Cx G cL_passes yL_passes.cls) (hst : (gl G).stackTraces = false) (hR : gR G = { frames := 17, cells := 13, slots := 32015, locals := 461 }) (hL : gL G = 12) (hr : (gme G).sig.returnType = some .boolean) {e v z5 : Nat} {Z M : XF} {K : KF} (I : IV (gsa G) e (v + 1) z5 Z M K) (at9 hd : Int32) (ln : Nat) (hln : ln ≤ 2000) (hb : Z 118 0 = 102) (hl : (K.2.2.1 0).length = ln)  (hQ : gQ G = MQ (gbe G) (QiW (gD G) (gcy G) (gA G) (gad G) (fun r X1 M1 K1 => r = 1 ∧ IV (gsa G) e (v + 1) z5 X1 M1 K1 ∧ ¬ X1 118 0 = 45)) (gas G) (gs G) 13 32015 (gA G)) : GH G (WX G Z M K) [(0, .ref (gad G 42)), (1, .ref (gsa G 900)), (2, .int 102), (3, .int (nI v)), (4, .int at9), (5, .int hd), (6, .int (nI ln)), (9, .int 1)] 12 32009 219 [] := by
  have hrc : (gR G).cells = 13 := by rw [hR]
  have hrs : (gR G).slots = 32015 := by rw [hR]
  have hlen := I.len
  have hnum := I.num
  refine g_aload_n C dL_passes_219 0 rfl ?_
  refine gf_L_o C tw363 dL_passes_220 ?_
  refine g_callViW C dL_passes_223 (c_X10_state _ _ _ _ _ _ _ _ _ I.ch118) tw1141 tw1142 tw1143 tw1 tw1144 (rv_X10 C) rfl ⟨by decide +kernel, by decide +kernel, rfl⟩ ⟨rfl, rfl⟩ (by rw [hR]; exact ⟨Nat.le_of_ble_eq_true rfl, Nat.le_of_ble_eq_true rfl⟩) (Nat.le_of_ble_eq_true rfl) (by omega) (fun r_1 X1 M1 K1 h_2 => ?_)
  obtain ⟨rfl, hX1, hM1, hK1⟩ := h_2
  subst X1 M1 K1
  refine g_topi (y := 102) hb ?_
  refine g_istore C dL_passes_226 (L' := [(10, .int 102), (0, .ref (gad G 42)), (1, .ref (gsa G 900)), (2, .int 102), (3, .int (nI v)), (4, .int at9), (5, .int hd), (6, .int (nI ln)), (9, .int 1)]) rfl (by rw [hL]; decide) ?_
  refine g_iload C dL_passes_228 8 rfl ?_
  refine g_if_eq C dL_passes_230 (tgt := 268) (by decide) (fun c_230 => absurd c_230 (by decide)) (fun c_230 => ?_)
  refine g_aload_n C dL_passes_233 1 rfl ?_
  refine gf_L_o C tw363 dL_passes_234 ?_
  refine g_callViW C dL_passes_237 (c_X10_logLength _ _ _ _ _ _ _ _ _ (by omega) (by omega)) tw1165 tw1166 tw1167 tw1 tw1168 (rv_X10 C) rfl ⟨by decide +kernel, by decide +kernel, rfl⟩ ⟨rfl, rfl⟩ (by rw [hR]; exact ⟨Nat.le_of_ble_eq_true rfl, Nat.le_of_ble_eq_true rfl⟩) (Nat.le_of_ble_eq_true rfl) (by omega) (fun r_3 X1 M1 K1 h_4 => ?_)
  obtain ⟨rfl, hX1, hM1, hK1⟩ := h_4
  subst X1 M1 K1
  refine g_iload C dL_passes_240 7 rfl ?_
  refine g_icmp_le C dL_passes_242 (tgt := 249) (by decide) (fun c_242 => ?_) (fun c_242 => absurd (nI_le (Nat.le_of_eq hl) (by omega)) c_242)
  refine g_iconst C dL_passes_249 (v := 0) (by decide) ?_
  refine g_iload C dL_passes_250 0 rfl ?_
  refine g_iload_n C dL_passes_252 3 rfl ?_
  refine g_icmp_eq C dL_passes_253 (tgt := 260) (by decide) (fun c_253 => ?_) (fun c_253 => absurd (by decide) c_253)
  refine g_iconst C dL_passes_260 (v := 0) (by decide) ?_
  refine g_icmp_ne C dL_passes_261 (tgt := 268) (by decide) (fun c_261 => absurd c_261 (by decide)) (fun c_261 => ?_)
  refine g_iconst C dL_passes_264 (v := 1) (by decide) ?_
  refine g_goto C dL_passes_265 (tgt := 269) (by decide) ?_
  refine g_istore C dL_passes_269 (L' := [(9, .int 1), (10, .int 102), (0, .ref (gad G 42)), (1, .ref (gsa G 900)), (2, .int 102), (3, .int (nI v)), (4, .int at9), (5, .int hd), (6, .int (nI ln))]) rfl (by rw [hL]; decide) ?_
  refine g_iload_n C dL_passes_271 4 rfl ?_
  refine g_bipush C dL_passes_272 (v := 99) (by decide) ?_
  refine g_icmp_eq C dL_passes_274 (tgt := 333) (by decide) (fun c_274 => absurd c_274 (by decide)) (fun c_274 => ?_)
  refine g_iload_n C dL_passes_277 4 rfl ?_
  refine g_bipush C dL_passes_278 (v := 104) (by decide) ?_
  refine g_icmp_eq C dL_passes_280 (tgt := 333) (by decide) (fun c_280 => absurd c_280 (by decide)) (fun c_280 => ?_)
  refine g_iload C dL_passes_283 0 rfl ?_
  refine g_if_eq C dL_passes_285 (tgt := 331) (by decide) (fun c_285 => absurd c_285 (by decide)) (fun c_285 => ?_)
  refine g_iload_n C dL_passes_288 4 rfl ?_
  refine g_bipush C dL_passes_289 (v := 102) (by decide) ?_
  refine g_icmp_eq C dL_passes_291 (tgt := 300) (by decide) (fun c_291 => ?_) (fun c_291 => absurd (by decide) c_291)
  refine g_iload_n C dL_passes_300 4 rfl ?_
  refine g_bipush C dL_passes_301 (v := 102) (by decide) ?_
  refine g_icmp_ne C dL_passes_303 (tgt := 327) (by decide) (fun c_303 => absurd c_303 (by decide)) (fun c_303 => ?_)
  refine g_iload C dL_passes_306 1 rfl ?_
  refine g_bipush C dL_passes_308 (v := 102) (by decide) ?_
  refine g_icmp_eq C dL_passes_310 (tgt := 327) (by decide) (fun c_310 => ?_) (fun c_310 => absurd (by decide) c_310)
  refine g_iconst C dL_passes_327 (v := 1) (by decide) ?_
  refine g_goto C dL_passes_328 (tgt := 332) (by decide) ?_
  refine g_zretW C hr (by decide) hQ (by omega) (by omega) dL_passes_332 ?_
  exact ⟨rfl, I, (by rw [hb]; decide)⟩

set_option maxHeartbeats 1000000 in
set_option maxRecDepth 100000 in
theorem pt_102_120 {G : MC} (C : Cx G cL_passes yL_passes.cls) (hst : (gl G).stackTraces = false) (hR : gR G = { frames := 17, cells := 13, slots := 32015, locals := 461 }) (hL : gL G = 12) (hr : (gme G).sig.returnType = some .boolean) {e v z5 : Nat} {Z M : XF} {K : KF} (I : IV (gsa G) e (v + 1) z5 Z M K) (at9 hd : Int32) (ln : Nat) (hln : ln ≤ 2000) (hb : Z 118 0 = 120) (hl : ln < (K.2.2.1 0).length)  (hQ : gQ G = MQ (gbe G) (QiW (gD G) (gcy G) (gA G) (gad G) (fun r X1 M1 K1 => r = 1 ∧ IV (gsa G) e (v + 1) z5 X1 M1 K1 ∧ ¬ X1 118 0 = 45)) (gas G) (gs G) 13 32015 (gA G)) : GH G (WX G Z M K) [(0, .ref (gad G 42)), (1, .ref (gsa G 900)), (2, .int 102), (3, .int (nI v)), (4, .int at9), (5, .int hd), (6, .int (nI ln)), (9, .int 1)] 12 32009 219 [] := by
  have hrc : (gR G).cells = 13 := by rw [hR]
  have hrs : (gR G).slots = 32015 := by rw [hR]
  have hlen := I.len
  have hnum := I.num
  refine g_aload_n C dL_passes_219 0 rfl ?_
  refine gf_L_o C tw363 dL_passes_220 ?_
  refine g_callViW C dL_passes_223 (c_X10_state _ _ _ _ _ _ _ _ _ I.ch118) tw1141 tw1142 tw1143 tw1 tw1144 (rv_X10 C) rfl ⟨by decide +kernel, by decide +kernel, rfl⟩ ⟨rfl, rfl⟩ (by rw [hR]; exact ⟨Nat.le_of_ble_eq_true rfl, Nat.le_of_ble_eq_true rfl⟩) (Nat.le_of_ble_eq_true rfl) (by omega) (fun r_1 X1 M1 K1 h_2 => ?_)
  obtain ⟨rfl, hX1, hM1, hK1⟩ := h_2
  subst X1 M1 K1
  refine g_topi (y := 120) hb ?_
  refine g_istore C dL_passes_226 (L' := [(10, .int 120), (0, .ref (gad G 42)), (1, .ref (gsa G 900)), (2, .int 102), (3, .int (nI v)), (4, .int at9), (5, .int hd), (6, .int (nI ln)), (9, .int 1)]) rfl (by rw [hL]; decide) ?_
  refine g_iload C dL_passes_228 8 rfl ?_
  refine g_if_eq C dL_passes_230 (tgt := 268) (by decide) (fun c_230 => absurd c_230 (by decide)) (fun c_230 => ?_)
  refine g_aload_n C dL_passes_233 1 rfl ?_
  refine gf_L_o C tw363 dL_passes_234 ?_
  refine g_callViW C dL_passes_237 (c_X10_logLength _ _ _ _ _ _ _ _ _ (by omega) (by omega)) tw1165 tw1166 tw1167 tw1 tw1168 (rv_X10 C) rfl ⟨by decide +kernel, by decide +kernel, rfl⟩ ⟨rfl, rfl⟩ (by rw [hR]; exact ⟨Nat.le_of_ble_eq_true rfl, Nat.le_of_ble_eq_true rfl⟩) (Nat.le_of_ble_eq_true rfl) (by omega) (fun r_3 X1 M1 K1 h_4 => ?_)
  obtain ⟨rfl, hX1, hM1, hK1⟩ := h_4
  subst X1 M1 K1
  refine g_iload C dL_passes_240 7 rfl ?_
  refine g_icmp_le C dL_passes_242 (tgt := 249) (by decide) (fun c_242 => absurd c_242 (nI_ge hl (by omega))) (fun c_242 => ?_)
  refine g_iconst C dL_passes_245 (v := 1) (by decide) ?_
  refine g_goto C dL_passes_246 (tgt := 250) (by decide) ?_
  refine g_iload C dL_passes_250 0 rfl ?_
  refine g_iload_n C dL_passes_252 3 rfl ?_
  refine g_icmp_eq C dL_passes_253 (tgt := 260) (by decide) (fun c_253 => absurd c_253 (by decide)) (fun c_253 => ?_)
  refine g_iconst C dL_passes_256 (v := 1) (by decide) ?_
  refine g_goto C dL_passes_257 (tgt := 261) (by decide) ?_
  refine g_icmp_ne C dL_passes_261 (tgt := 268) (by decide) (fun c_261 => absurd c_261 (by decide)) (fun c_261 => ?_)
  refine g_iconst C dL_passes_264 (v := 1) (by decide) ?_
  refine g_goto C dL_passes_265 (tgt := 269) (by decide) ?_
  refine g_istore C dL_passes_269 (L' := [(9, .int 1), (10, .int 120), (0, .ref (gad G 42)), (1, .ref (gsa G 900)), (2, .int 102), (3, .int (nI v)), (4, .int at9), (5, .int hd), (6, .int (nI ln))]) rfl (by rw [hL]; decide) ?_
  refine g_iload_n C dL_passes_271 4 rfl ?_
  refine g_bipush C dL_passes_272 (v := 99) (by decide) ?_
  refine g_icmp_eq C dL_passes_274 (tgt := 333) (by decide) (fun c_274 => absurd c_274 (by decide)) (fun c_274 => ?_)
  refine g_iload_n C dL_passes_277 4 rfl ?_
  refine g_bipush C dL_passes_278 (v := 104) (by decide) ?_
  refine g_icmp_eq C dL_passes_280 (tgt := 333) (by decide) (fun c_280 => absurd c_280 (by decide)) (fun c_280 => ?_)
  refine g_iload C dL_passes_283 0 rfl ?_
  refine g_if_eq C dL_passes_285 (tgt := 331) (by decide) (fun c_285 => absurd c_285 (by decide)) (fun c_285 => ?_)
  refine g_iload_n C dL_passes_288 4 rfl ?_
  refine g_bipush C dL_passes_289 (v := 102) (by decide) ?_
  refine g_icmp_eq C dL_passes_291 (tgt := 300) (by decide) (fun c_291 => ?_) (fun c_291 => absurd (by decide) c_291)
  refine g_iload_n C dL_passes_300 4 rfl ?_
  refine g_bipush C dL_passes_301 (v := 102) (by decide) ?_
  refine g_icmp_ne C dL_passes_303 (tgt := 327) (by decide) (fun c_303 => absurd c_303 (by decide)) (fun c_303 => ?_)
  refine g_iload C dL_passes_306 1 rfl ?_
  refine g_bipush C dL_passes_308 (v := 102) (by decide) ?_
  refine g_icmp_eq C dL_passes_310 (tgt := 327) (by decide) (fun c_310 => absurd c_310 (by decide)) (fun c_310 => ?_)
  refine g_iload C dL_passes_313 1 rfl ?_
  refine g_bipush C dL_passes_315 (v := 120) (by decide) ?_
  refine g_icmp_eq C dL_passes_317 (tgt := 327) (by decide) (fun c_317 => ?_) (fun c_317 => absurd (by decide) c_317)
  refine g_iconst C dL_passes_327 (v := 1) (by decide) ?_
  refine g_goto C dL_passes_328 (tgt := 332) (by decide) ?_
  refine g_zretW C hr (by decide) hQ (by omega) (by omega) dL_passes_332 ?_
  exact ⟨rfl, I, (by rw [hb]; decide)⟩

set_option maxHeartbeats 1000000 in
set_option maxRecDepth 100000 in
theorem pt_102_111 {G : MC} (C : Cx G cL_passes yL_passes.cls) (hst : (gl G).stackTraces = false) (hR : gR G = { frames := 17, cells := 13, slots := 32015, locals := 461 }) (hL : gL G = 12) (hr : (gme G).sig.returnType = some .boolean) {e v z5 : Nat} {Z M : XF} {K : KF} (I : IV (gsa G) e (v + 1) z5 Z M K) (at9 hd : Int32) (ln : Nat) (hln : ln ≤ 2000) (hb : Z 118 0 = 111) (hl : ln < (K.2.2.1 0).length)  (hQ : gQ G = MQ (gbe G) (QiW (gD G) (gcy G) (gA G) (gad G) (fun r X1 M1 K1 => r = 1 ∧ IV (gsa G) e (v + 1) z5 X1 M1 K1 ∧ ¬ X1 118 0 = 45)) (gas G) (gs G) 13 32015 (gA G)) : GH G (WX G Z M K) [(0, .ref (gad G 42)), (1, .ref (gsa G 900)), (2, .int 102), (3, .int (nI v)), (4, .int at9), (5, .int hd), (6, .int (nI ln)), (9, .int 1)] 12 32009 219 [] := by
  have hrc : (gR G).cells = 13 := by rw [hR]
  have hrs : (gR G).slots = 32015 := by rw [hR]
  have hlen := I.len
  have hnum := I.num
  refine g_aload_n C dL_passes_219 0 rfl ?_
  refine gf_L_o C tw363 dL_passes_220 ?_
  refine g_callViW C dL_passes_223 (c_X10_state _ _ _ _ _ _ _ _ _ I.ch118) tw1141 tw1142 tw1143 tw1 tw1144 (rv_X10 C) rfl ⟨by decide +kernel, by decide +kernel, rfl⟩ ⟨rfl, rfl⟩ (by rw [hR]; exact ⟨Nat.le_of_ble_eq_true rfl, Nat.le_of_ble_eq_true rfl⟩) (Nat.le_of_ble_eq_true rfl) (by omega) (fun r_1 X1 M1 K1 h_2 => ?_)
  obtain ⟨rfl, hX1, hM1, hK1⟩ := h_2
  subst X1 M1 K1
  refine g_topi (y := 111) hb ?_
  refine g_istore C dL_passes_226 (L' := [(10, .int 111), (0, .ref (gad G 42)), (1, .ref (gsa G 900)), (2, .int 102), (3, .int (nI v)), (4, .int at9), (5, .int hd), (6, .int (nI ln)), (9, .int 1)]) rfl (by rw [hL]; decide) ?_
  refine g_iload C dL_passes_228 8 rfl ?_
  refine g_if_eq C dL_passes_230 (tgt := 268) (by decide) (fun c_230 => absurd c_230 (by decide)) (fun c_230 => ?_)
  refine g_aload_n C dL_passes_233 1 rfl ?_
  refine gf_L_o C tw363 dL_passes_234 ?_
  refine g_callViW C dL_passes_237 (c_X10_logLength _ _ _ _ _ _ _ _ _ (by omega) (by omega)) tw1165 tw1166 tw1167 tw1 tw1168 (rv_X10 C) rfl ⟨by decide +kernel, by decide +kernel, rfl⟩ ⟨rfl, rfl⟩ (by rw [hR]; exact ⟨Nat.le_of_ble_eq_true rfl, Nat.le_of_ble_eq_true rfl⟩) (Nat.le_of_ble_eq_true rfl) (by omega) (fun r_3 X1 M1 K1 h_4 => ?_)
  obtain ⟨rfl, hX1, hM1, hK1⟩ := h_4
  subst X1 M1 K1
  refine g_iload C dL_passes_240 7 rfl ?_
  refine g_icmp_le C dL_passes_242 (tgt := 249) (by decide) (fun c_242 => absurd c_242 (nI_ge hl (by omega))) (fun c_242 => ?_)
  refine g_iconst C dL_passes_245 (v := 1) (by decide) ?_
  refine g_goto C dL_passes_246 (tgt := 250) (by decide) ?_
  refine g_iload C dL_passes_250 0 rfl ?_
  refine g_iload_n C dL_passes_252 3 rfl ?_
  refine g_icmp_eq C dL_passes_253 (tgt := 260) (by decide) (fun c_253 => absurd c_253 (by decide)) (fun c_253 => ?_)
  refine g_iconst C dL_passes_256 (v := 1) (by decide) ?_
  refine g_goto C dL_passes_257 (tgt := 261) (by decide) ?_
  refine g_icmp_ne C dL_passes_261 (tgt := 268) (by decide) (fun c_261 => absurd c_261 (by decide)) (fun c_261 => ?_)
  refine g_iconst C dL_passes_264 (v := 1) (by decide) ?_
  refine g_goto C dL_passes_265 (tgt := 269) (by decide) ?_
  refine g_istore C dL_passes_269 (L' := [(9, .int 1), (10, .int 111), (0, .ref (gad G 42)), (1, .ref (gsa G 900)), (2, .int 102), (3, .int (nI v)), (4, .int at9), (5, .int hd), (6, .int (nI ln))]) rfl (by rw [hL]; decide) ?_
  refine g_iload_n C dL_passes_271 4 rfl ?_
  refine g_bipush C dL_passes_272 (v := 99) (by decide) ?_
  refine g_icmp_eq C dL_passes_274 (tgt := 333) (by decide) (fun c_274 => absurd c_274 (by decide)) (fun c_274 => ?_)
  refine g_iload_n C dL_passes_277 4 rfl ?_
  refine g_bipush C dL_passes_278 (v := 104) (by decide) ?_
  refine g_icmp_eq C dL_passes_280 (tgt := 333) (by decide) (fun c_280 => absurd c_280 (by decide)) (fun c_280 => ?_)
  refine g_iload C dL_passes_283 0 rfl ?_
  refine g_if_eq C dL_passes_285 (tgt := 331) (by decide) (fun c_285 => absurd c_285 (by decide)) (fun c_285 => ?_)
  refine g_iload_n C dL_passes_288 4 rfl ?_
  refine g_bipush C dL_passes_289 (v := 102) (by decide) ?_
  refine g_icmp_eq C dL_passes_291 (tgt := 300) (by decide) (fun c_291 => ?_) (fun c_291 => absurd (by decide) c_291)
  refine g_iload_n C dL_passes_300 4 rfl ?_
  refine g_bipush C dL_passes_301 (v := 102) (by decide) ?_
  refine g_icmp_ne C dL_passes_303 (tgt := 327) (by decide) (fun c_303 => absurd c_303 (by decide)) (fun c_303 => ?_)
  refine g_iload C dL_passes_306 1 rfl ?_
  refine g_bipush C dL_passes_308 (v := 102) (by decide) ?_
  refine g_icmp_eq C dL_passes_310 (tgt := 327) (by decide) (fun c_310 => absurd c_310 (by decide)) (fun c_310 => ?_)
  refine g_iload C dL_passes_313 1 rfl ?_
  refine g_bipush C dL_passes_315 (v := 120) (by decide) ?_
  refine g_icmp_eq C dL_passes_317 (tgt := 327) (by decide) (fun c_317 => absurd c_317 (by decide)) (fun c_317 => ?_)
  refine g_iload C dL_passes_320 1 rfl ?_
  refine g_bipush C dL_passes_322 (v := 111) (by decide) ?_
  refine g_icmp_ne C dL_passes_324 (tgt := 331) (by decide) (fun c_324 => absurd c_324 (by decide)) (fun c_324 => ?_)
  refine g_iconst C dL_passes_327 (v := 1) (by decide) ?_
  refine g_goto C dL_passes_328 (tgt := 332) (by decide) ?_
  refine g_zretW C hr (by decide) hQ (by omega) (by omega) dL_passes_332 ?_
  exact ⟨rfl, I, (by rw [hb]; decide)⟩

set_option maxHeartbeats 1000000 in
set_option maxRecDepth 100000 in
theorem pt_120_120 {G : MC} (C : Cx G cL_passes yL_passes.cls) (hst : (gl G).stackTraces = false) (hR : gR G = { frames := 17, cells := 13, slots := 32015, locals := 461 }) (hL : gL G = 12) (hr : (gme G).sig.returnType = some .boolean) {e v z5 : Nat} {Z M : XF} {K : KF} (I : IV (gsa G) e (v + 1) z5 Z M K) (at9 hd : Int32) (ln : Nat) (hln : ln ≤ 2000) (hb : Z 118 0 = 120) (hl : (K.2.2.1 0).length = ln)  (hQ : gQ G = MQ (gbe G) (QiW (gD G) (gcy G) (gA G) (gad G) (fun r X1 M1 K1 => r = 1 ∧ IV (gsa G) e (v + 1) z5 X1 M1 K1 ∧ ¬ X1 118 0 = 45)) (gas G) (gs G) 13 32015 (gA G)) : GH G (WX G Z M K) [(0, .ref (gad G 42)), (1, .ref (gsa G 900)), (2, .int 120), (3, .int (nI v)), (4, .int at9), (5, .int hd), (6, .int (nI ln)), (9, .int 1)] 12 32009 219 [] := by
  have hrc : (gR G).cells = 13 := by rw [hR]
  have hrs : (gR G).slots = 32015 := by rw [hR]
  have hlen := I.len
  have hnum := I.num
  refine g_aload_n C dL_passes_219 0 rfl ?_
  refine gf_L_o C tw363 dL_passes_220 ?_
  refine g_callViW C dL_passes_223 (c_X10_state _ _ _ _ _ _ _ _ _ I.ch118) tw1141 tw1142 tw1143 tw1 tw1144 (rv_X10 C) rfl ⟨by decide +kernel, by decide +kernel, rfl⟩ ⟨rfl, rfl⟩ (by rw [hR]; exact ⟨Nat.le_of_ble_eq_true rfl, Nat.le_of_ble_eq_true rfl⟩) (Nat.le_of_ble_eq_true rfl) (by omega) (fun r_1 X1 M1 K1 h_2 => ?_)
  obtain ⟨rfl, hX1, hM1, hK1⟩ := h_2
  subst X1 M1 K1
  refine g_topi (y := 120) hb ?_
  refine g_istore C dL_passes_226 (L' := [(10, .int 120), (0, .ref (gad G 42)), (1, .ref (gsa G 900)), (2, .int 120), (3, .int (nI v)), (4, .int at9), (5, .int hd), (6, .int (nI ln)), (9, .int 1)]) rfl (by rw [hL]; decide) ?_
  refine g_iload C dL_passes_228 8 rfl ?_
  refine g_if_eq C dL_passes_230 (tgt := 268) (by decide) (fun c_230 => absurd c_230 (by decide)) (fun c_230 => ?_)
  refine g_aload_n C dL_passes_233 1 rfl ?_
  refine gf_L_o C tw363 dL_passes_234 ?_
  refine g_callViW C dL_passes_237 (c_X10_logLength _ _ _ _ _ _ _ _ _ (by omega) (by omega)) tw1165 tw1166 tw1167 tw1 tw1168 (rv_X10 C) rfl ⟨by decide +kernel, by decide +kernel, rfl⟩ ⟨rfl, rfl⟩ (by rw [hR]; exact ⟨Nat.le_of_ble_eq_true rfl, Nat.le_of_ble_eq_true rfl⟩) (Nat.le_of_ble_eq_true rfl) (by omega) (fun r_3 X1 M1 K1 h_4 => ?_)
  obtain ⟨rfl, hX1, hM1, hK1⟩ := h_4
  subst X1 M1 K1
  refine g_iload C dL_passes_240 7 rfl ?_
  refine g_icmp_le C dL_passes_242 (tgt := 249) (by decide) (fun c_242 => ?_) (fun c_242 => absurd (nI_le (Nat.le_of_eq hl) (by omega)) c_242)
  refine g_iconst C dL_passes_249 (v := 0) (by decide) ?_
  refine g_iload C dL_passes_250 0 rfl ?_
  refine g_iload_n C dL_passes_252 3 rfl ?_
  refine g_icmp_eq C dL_passes_253 (tgt := 260) (by decide) (fun c_253 => ?_) (fun c_253 => absurd (by decide) c_253)
  refine g_iconst C dL_passes_260 (v := 0) (by decide) ?_
  refine g_icmp_ne C dL_passes_261 (tgt := 268) (by decide) (fun c_261 => absurd c_261 (by decide)) (fun c_261 => ?_)
  refine g_iconst C dL_passes_264 (v := 1) (by decide) ?_
  refine g_goto C dL_passes_265 (tgt := 269) (by decide) ?_
  refine g_istore C dL_passes_269 (L' := [(9, .int 1), (10, .int 120), (0, .ref (gad G 42)), (1, .ref (gsa G 900)), (2, .int 120), (3, .int (nI v)), (4, .int at9), (5, .int hd), (6, .int (nI ln))]) rfl (by rw [hL]; decide) ?_
  refine g_iload_n C dL_passes_271 4 rfl ?_
  refine g_bipush C dL_passes_272 (v := 99) (by decide) ?_
  refine g_icmp_eq C dL_passes_274 (tgt := 333) (by decide) (fun c_274 => absurd c_274 (by decide)) (fun c_274 => ?_)
  refine g_iload_n C dL_passes_277 4 rfl ?_
  refine g_bipush C dL_passes_278 (v := 104) (by decide) ?_
  refine g_icmp_eq C dL_passes_280 (tgt := 333) (by decide) (fun c_280 => absurd c_280 (by decide)) (fun c_280 => ?_)
  refine g_iload C dL_passes_283 0 rfl ?_
  refine g_if_eq C dL_passes_285 (tgt := 331) (by decide) (fun c_285 => absurd c_285 (by decide)) (fun c_285 => ?_)
  refine g_iload_n C dL_passes_288 4 rfl ?_
  refine g_bipush C dL_passes_289 (v := 102) (by decide) ?_
  refine g_icmp_eq C dL_passes_291 (tgt := 300) (by decide) (fun c_291 => absurd c_291 (by decide)) (fun c_291 => ?_)
  refine g_iload C dL_passes_294 1 rfl ?_
  refine g_iload_n C dL_passes_296 4 rfl ?_
  refine g_icmp_ne C dL_passes_297 (tgt := 331) (by decide) (fun c_297 => absurd c_297 (by decide)) (fun c_297 => ?_)
  refine g_iload_n C dL_passes_300 4 rfl ?_
  refine g_bipush C dL_passes_301 (v := 102) (by decide) ?_
  refine g_icmp_ne C dL_passes_303 (tgt := 327) (by decide) (fun c_303 => ?_) (fun c_303 => absurd c_303 (by decide))
  refine g_iconst C dL_passes_327 (v := 1) (by decide) ?_
  refine g_goto C dL_passes_328 (tgt := 332) (by decide) ?_
  refine g_zretW C hr (by decide) hQ (by omega) (by omega) dL_passes_332 ?_
  exact ⟨rfl, I, (by rw [hb]; decide)⟩

set_option maxHeartbeats 1000000 in
set_option maxRecDepth 100000 in
theorem pt_111_111 {G : MC} (C : Cx G cL_passes yL_passes.cls) (hst : (gl G).stackTraces = false) (hR : gR G = { frames := 17, cells := 13, slots := 32015, locals := 461 }) (hL : gL G = 12) (hr : (gme G).sig.returnType = some .boolean) {e v z5 : Nat} {Z M : XF} {K : KF} (I : IV (gsa G) e (v + 1) z5 Z M K) (at9 hd : Int32) (ln : Nat) (hln : ln ≤ 2000) (hb : Z 118 0 = 111) (hl : (K.2.2.1 0).length = ln)  (hQ : gQ G = MQ (gbe G) (QiW (gD G) (gcy G) (gA G) (gad G) (fun r X1 M1 K1 => r = 1 ∧ IV (gsa G) e (v + 1) z5 X1 M1 K1 ∧ ¬ X1 118 0 = 45)) (gas G) (gs G) 13 32015 (gA G)) : GH G (WX G Z M K) [(0, .ref (gad G 42)), (1, .ref (gsa G 900)), (2, .int 111), (3, .int (nI v)), (4, .int at9), (5, .int hd), (6, .int (nI ln)), (9, .int 1)] 12 32009 219 [] := by
  have hrc : (gR G).cells = 13 := by rw [hR]
  have hrs : (gR G).slots = 32015 := by rw [hR]
  have hlen := I.len
  have hnum := I.num
  refine g_aload_n C dL_passes_219 0 rfl ?_
  refine gf_L_o C tw363 dL_passes_220 ?_
  refine g_callViW C dL_passes_223 (c_X10_state _ _ _ _ _ _ _ _ _ I.ch118) tw1141 tw1142 tw1143 tw1 tw1144 (rv_X10 C) rfl ⟨by decide +kernel, by decide +kernel, rfl⟩ ⟨rfl, rfl⟩ (by rw [hR]; exact ⟨Nat.le_of_ble_eq_true rfl, Nat.le_of_ble_eq_true rfl⟩) (Nat.le_of_ble_eq_true rfl) (by omega) (fun r_1 X1 M1 K1 h_2 => ?_)
  obtain ⟨rfl, hX1, hM1, hK1⟩ := h_2
  subst X1 M1 K1
  refine g_topi (y := 111) hb ?_
  refine g_istore C dL_passes_226 (L' := [(10, .int 111), (0, .ref (gad G 42)), (1, .ref (gsa G 900)), (2, .int 111), (3, .int (nI v)), (4, .int at9), (5, .int hd), (6, .int (nI ln)), (9, .int 1)]) rfl (by rw [hL]; decide) ?_
  refine g_iload C dL_passes_228 8 rfl ?_
  refine g_if_eq C dL_passes_230 (tgt := 268) (by decide) (fun c_230 => absurd c_230 (by decide)) (fun c_230 => ?_)
  refine g_aload_n C dL_passes_233 1 rfl ?_
  refine gf_L_o C tw363 dL_passes_234 ?_
  refine g_callViW C dL_passes_237 (c_X10_logLength _ _ _ _ _ _ _ _ _ (by omega) (by omega)) tw1165 tw1166 tw1167 tw1 tw1168 (rv_X10 C) rfl ⟨by decide +kernel, by decide +kernel, rfl⟩ ⟨rfl, rfl⟩ (by rw [hR]; exact ⟨Nat.le_of_ble_eq_true rfl, Nat.le_of_ble_eq_true rfl⟩) (Nat.le_of_ble_eq_true rfl) (by omega) (fun r_3 X1 M1 K1 h_4 => ?_)
  obtain ⟨rfl, hX1, hM1, hK1⟩ := h_4
  subst X1 M1 K1
  refine g_iload C dL_passes_240 7 rfl ?_
  refine g_icmp_le C dL_passes_242 (tgt := 249) (by decide) (fun c_242 => ?_) (fun c_242 => absurd (nI_le (Nat.le_of_eq hl) (by omega)) c_242)
  refine g_iconst C dL_passes_249 (v := 0) (by decide) ?_
  refine g_iload C dL_passes_250 0 rfl ?_
  refine g_iload_n C dL_passes_252 3 rfl ?_
  refine g_icmp_eq C dL_passes_253 (tgt := 260) (by decide) (fun c_253 => ?_) (fun c_253 => absurd (by decide) c_253)
  refine g_iconst C dL_passes_260 (v := 0) (by decide) ?_
  refine g_icmp_ne C dL_passes_261 (tgt := 268) (by decide) (fun c_261 => absurd c_261 (by decide)) (fun c_261 => ?_)
  refine g_iconst C dL_passes_264 (v := 1) (by decide) ?_
  refine g_goto C dL_passes_265 (tgt := 269) (by decide) ?_
  refine g_istore C dL_passes_269 (L' := [(9, .int 1), (10, .int 111), (0, .ref (gad G 42)), (1, .ref (gsa G 900)), (2, .int 111), (3, .int (nI v)), (4, .int at9), (5, .int hd), (6, .int (nI ln))]) rfl (by rw [hL]; decide) ?_
  refine g_iload_n C dL_passes_271 4 rfl ?_
  refine g_bipush C dL_passes_272 (v := 99) (by decide) ?_
  refine g_icmp_eq C dL_passes_274 (tgt := 333) (by decide) (fun c_274 => absurd c_274 (by decide)) (fun c_274 => ?_)
  refine g_iload_n C dL_passes_277 4 rfl ?_
  refine g_bipush C dL_passes_278 (v := 104) (by decide) ?_
  refine g_icmp_eq C dL_passes_280 (tgt := 333) (by decide) (fun c_280 => absurd c_280 (by decide)) (fun c_280 => ?_)
  refine g_iload C dL_passes_283 0 rfl ?_
  refine g_if_eq C dL_passes_285 (tgt := 331) (by decide) (fun c_285 => absurd c_285 (by decide)) (fun c_285 => ?_)
  refine g_iload_n C dL_passes_288 4 rfl ?_
  refine g_bipush C dL_passes_289 (v := 102) (by decide) ?_
  refine g_icmp_eq C dL_passes_291 (tgt := 300) (by decide) (fun c_291 => absurd c_291 (by decide)) (fun c_291 => ?_)
  refine g_iload C dL_passes_294 1 rfl ?_
  refine g_iload_n C dL_passes_296 4 rfl ?_
  refine g_icmp_ne C dL_passes_297 (tgt := 331) (by decide) (fun c_297 => absurd c_297 (by decide)) (fun c_297 => ?_)
  refine g_iload_n C dL_passes_300 4 rfl ?_
  refine g_bipush C dL_passes_301 (v := 102) (by decide) ?_
  refine g_icmp_ne C dL_passes_303 (tgt := 327) (by decide) (fun c_303 => ?_) (fun c_303 => absurd c_303 (by decide))
  refine g_iconst C dL_passes_327 (v := 1) (by decide) ?_
  refine g_goto C dL_passes_328 (tgt := 332) (by decide) ?_
  refine g_zretW C hr (by decide) hQ (by omega) (by omega) dL_passes_332 ?_
  exact ⟨rfl, I, (by rw [hb]; decide)⟩

set_option maxHeartbeats 1000000 in
set_option maxRecDepth 100000 in
theorem pt_99_104 {G : MC} (C : Cx G cL_passes yL_passes.cls) (hst : (gl G).stackTraces = false) (hR : gR G = { frames := 17, cells := 13, slots := 32015, locals := 461 }) (hL : gL G = 12) (hr : (gme G).sig.returnType = some .boolean) {e v z5 : Nat} {Z M : XF} {K : KF} (I : IV (gsa G) e (v + 1) z5 Z M K) (at9 hd : Int32) (ln : Nat) (hln : ln ≤ 2000) (hb : Z 118 0 = 104) (hl : ln < (K.2.2.1 0).length) (h9 : Z 109 0 = hd + 1) (h6 : Z 106 0 = at9) (h1 : ∀ f : Nat, lf (gsa G) Z M at9 6 0 = f → f < 6 → Z 111 0 = kndB.getD f 0 ∧ Z 112 0 = nI f) (h2 : lf (gsa G) Z M at9 6 0 = 6 → Z 112 0 = -1 ∧ (Z 111 0 = 109 ∨ Z 111 0 = 111 ∧ at9 = -1 ∧ Z 101 0 < M 100 0)) (hQ : gQ G = MQ (gbe G) (QiW (gD G) (gcy G) (gA G) (gad G) (fun r X1 M1 K1 => r = 1 ∧ IV (gsa G) e (v + 1) z5 X1 M1 K1 ∧ ¬ X1 118 0 = 45)) (gas G) (gs G) 13 32015 (gA G)) : GH G (WX G Z M K) [(0, .ref (gad G 42)), (1, .ref (gsa G 900)), (2, .int 99), (3, .int (nI v)), (4, .int at9), (5, .int hd), (6, .int (nI ln)), (9, .int 1)] 12 32009 219 [] := by
  have hrc : (gR G).cells = 13 := by rw [hR]
  have hrs : (gR G).slots = 32015 := by rw [hR]
  have hlen := I.len
  have hnum := I.num
  refine g_aload_n C dL_passes_219 0 rfl ?_
  refine gf_L_o C tw363 dL_passes_220 ?_
  refine g_callViW C dL_passes_223 (c_X10_state _ _ _ _ _ _ _ _ _ I.ch118) tw1141 tw1142 tw1143 tw1 tw1144 (rv_X10 C) rfl ⟨by decide +kernel, by decide +kernel, rfl⟩ ⟨rfl, rfl⟩ (by rw [hR]; exact ⟨Nat.le_of_ble_eq_true rfl, Nat.le_of_ble_eq_true rfl⟩) (Nat.le_of_ble_eq_true rfl) (by omega) (fun r_1 X1 M1 K1 h_2 => ?_)
  obtain ⟨rfl, hX1, hM1, hK1⟩ := h_2
  subst X1 M1 K1
  refine g_topi (y := 104) hb ?_
  refine g_istore C dL_passes_226 (L' := [(10, .int 104), (0, .ref (gad G 42)), (1, .ref (gsa G 900)), (2, .int 99), (3, .int (nI v)), (4, .int at9), (5, .int hd), (6, .int (nI ln)), (9, .int 1)]) rfl (by rw [hL]; decide) ?_
  refine g_iload C dL_passes_228 8 rfl ?_
  refine g_if_eq C dL_passes_230 (tgt := 268) (by decide) (fun c_230 => absurd c_230 (by decide)) (fun c_230 => ?_)
  refine g_aload_n C dL_passes_233 1 rfl ?_
  refine gf_L_o C tw363 dL_passes_234 ?_
  refine g_callViW C dL_passes_237 (c_X10_logLength _ _ _ _ _ _ _ _ _ (by omega) (by omega)) tw1165 tw1166 tw1167 tw1 tw1168 (rv_X10 C) rfl ⟨by decide +kernel, by decide +kernel, rfl⟩ ⟨rfl, rfl⟩ (by rw [hR]; exact ⟨Nat.le_of_ble_eq_true rfl, Nat.le_of_ble_eq_true rfl⟩) (Nat.le_of_ble_eq_true rfl) (by omega) (fun r_3 X1 M1 K1 h_4 => ?_)
  obtain ⟨rfl, hX1, hM1, hK1⟩ := h_4
  subst X1 M1 K1
  refine g_iload C dL_passes_240 7 rfl ?_
  refine g_icmp_le C dL_passes_242 (tgt := 249) (by decide) (fun c_242 => absurd c_242 (nI_ge hl (by omega))) (fun c_242 => ?_)
  refine g_iconst C dL_passes_245 (v := 1) (by decide) ?_
  refine g_goto C dL_passes_246 (tgt := 250) (by decide) ?_
  refine g_iload C dL_passes_250 0 rfl ?_
  refine g_iload_n C dL_passes_252 3 rfl ?_
  refine g_icmp_eq C dL_passes_253 (tgt := 260) (by decide) (fun c_253 => absurd c_253 (by decide)) (fun c_253 => ?_)
  refine g_iconst C dL_passes_256 (v := 1) (by decide) ?_
  refine g_goto C dL_passes_257 (tgt := 261) (by decide) ?_
  refine g_icmp_ne C dL_passes_261 (tgt := 268) (by decide) (fun c_261 => absurd c_261 (by decide)) (fun c_261 => ?_)
  refine g_iconst C dL_passes_264 (v := 1) (by decide) ?_
  refine g_goto C dL_passes_265 (tgt := 269) (by decide) ?_
  refine g_istore C dL_passes_269 (L' := [(9, .int 1), (10, .int 104), (0, .ref (gad G 42)), (1, .ref (gsa G 900)), (2, .int 99), (3, .int (nI v)), (4, .int at9), (5, .int hd), (6, .int (nI ln))]) rfl (by rw [hL]; decide) ?_
  refine g_iload_n C dL_passes_271 4 rfl ?_
  refine g_bipush C dL_passes_272 (v := 99) (by decide) ?_
  refine g_icmp_eq C dL_passes_274 (tgt := 333) (by decide) (fun c_274 => ?_) (fun c_274 => absurd (by decide) c_274)
  refine g_aload_n C dL_passes_333 2 rfl ?_
  refine gf_L_o C tw363 dL_passes_334 ?_
  refine g_bipush C dL_passes_337 (v := 26) (by decide) ?_
  refine g_iconst C dL_passes_339 (v := 0) (by decide) ?_
  refine g_iconst C dL_passes_340 (v := 0) (by decide) ?_
  refine g_callSiW C dL_passes_341 (c_ask_26 _ _ _ _ _ _ _ _ _ (by rw [hb]; decide) _ _) tw1112 tw1113 tw0 tw1114 rfl ⟨by decide +kernel, by decide +kernel, rfl⟩ ⟨rfl, rfl⟩ (by rw [hR]; exact ⟨Nat.le_of_ble_eq_true rfl, Nat.le_of_ble_eq_true rfl⟩) (Nat.le_of_ble_eq_true rfl) (by omega) (fun r_5 X1 M1 K1 h_6 => ?_)
  obtain ⟨rfl, hX1, hM1, hK1⟩ := h_6
  subst X1 M1 K1
  refine g_iload C dL_passes_344 7 rfl ?_
  refine g_iconst C dL_passes_346 (v := 1) (by decide) ?_
  refine g_iadd C dL_passes_347 ?_
  refine g_icmp_ne C dL_passes_348 (tgt := 355) (by decide) (fun c_348 => absurd c_348 (not_not_intro h9)) (fun c_348 => ?_)
  refine g_iconst C dL_passes_351 (v := 1) (by decide) ?_
  refine g_goto C dL_passes_352 (tgt := 356) (by decide) ?_
  refine g_istore C dL_passes_356 (L' := [(11, .int 1), (9, .int 1), (10, .int 104), (0, .ref (gad G 42)), (1, .ref (gsa G 900)), (2, .int 99), (3, .int (nI v)), (4, .int at9), (5, .int hd), (6, .int (nI ln))]) rfl (by rw [hL]; decide) ?_
  refine g_iload C dL_passes_358 2 rfl ?_
  refine g_bipush C dL_passes_360 (v := 104) (by decide) ?_
  refine g_icmp_ne C dL_passes_362 (tgt := 391) (by decide) (fun c_362 => absurd c_362 (by decide)) (fun c_362 => ?_)
  refine g_iload C dL_passes_365 1 rfl ?_
  refine g_if_eq C dL_passes_367 (tgt := 389) (by decide) (fun c_367 => absurd c_367 (by decide)) (fun c_367 => ?_)
  refine g_iload C dL_passes_370 0 rfl ?_
  refine g_if_eq C dL_passes_372 (tgt := 389) (by decide) (fun c_372 => absurd c_372 (by decide)) (fun c_372 => ?_)
  refine g_aload_n C dL_passes_375 3 rfl ?_
  refine g_aload_n C dL_passes_376 4 rfl ?_
  refine g_iload C dL_passes_377 7 rfl ?_
  refine g_callViW C dL_passes_379 (c_L_isHeldRight _ _ _ _ _ _ _ _ _ at9 I.x6 I.okA hb I.ch111 h6 h1 h2 hst) tw1174 tw1176 tp21 tw0 tw1177 (rv_L C) rfl ⟨by decide +kernel, by decide +kernel, rfl⟩ ⟨rfl, rfl⟩ (by rw [hR]; exact ⟨Nat.le_of_ble_eq_true rfl, Nat.le_of_ble_eq_true rfl⟩) (Nat.le_of_ble_eq_true rfl) (by omega) (fun r_7 X1 M1 K1 h_8 => ?_)
  obtain ⟨rfl, hX1, hM1, hK1⟩ := h_8
  subst X1 M1 K1
  refine g_if_eq C dL_passes_382 (tgt := 389) (by decide) (fun c_382 => absurd c_382 (by decide)) (fun c_382 => ?_)
  refine g_iconst C dL_passes_385 (v := 1) (by decide) ?_
  refine g_goto C dL_passes_386 (tgt := 390) (by decide) ?_
  refine g_zretW C hr (by decide) hQ (by omega) (by omega) dL_passes_390 ?_
  exact ⟨rfl, I, (by rw [hb]; decide)⟩

set_option maxHeartbeats 1000000 in
set_option maxRecDepth 100000 in
theorem pt_99_115 {G : MC} (C : Cx G cL_passes yL_passes.cls) (hst : (gl G).stackTraces = false) (hR : gR G = { frames := 17, cells := 13, slots := 32015, locals := 461 }) (hL : gL G = 12) (hr : (gme G).sig.returnType = some .boolean) {e v z5 : Nat} {Z M : XF} {K : KF} (I : IV (gsa G) e (v + 1) z5 Z M K) (at9 hd : Int32) (ln : Nat) (hln : ln ≤ 2000) (hb : Z 118 0 = 115) (hl : ln < (K.2.2.1 0).length) (hs : M 101 0 < nI (v + 1) - Z 106 0) (hQ : gQ G = MQ (gbe G) (QiW (gD G) (gcy G) (gA G) (gad G) (fun r X1 M1 K1 => r = 1 ∧ IV (gsa G) e (v + 1) z5 X1 M1 K1 ∧ ¬ X1 118 0 = 45)) (gas G) (gs G) 13 32015 (gA G)) : GH G (WX G Z M K) [(0, .ref (gad G 42)), (1, .ref (gsa G 900)), (2, .int 99), (3, .int (nI v)), (4, .int at9), (5, .int hd), (6, .int (nI ln)), (9, .int 1)] 12 32009 219 [] := by
  have hrc : (gR G).cells = 13 := by rw [hR]
  have hrs : (gR G).slots = 32015 := by rw [hR]
  have hlen := I.len
  have hnum := I.num
  refine g_aload_n C dL_passes_219 0 rfl ?_
  refine gf_L_o C tw363 dL_passes_220 ?_
  refine g_callViW C dL_passes_223 (c_X10_state _ _ _ _ _ _ _ _ _ I.ch118) tw1141 tw1142 tw1143 tw1 tw1144 (rv_X10 C) rfl ⟨by decide +kernel, by decide +kernel, rfl⟩ ⟨rfl, rfl⟩ (by rw [hR]; exact ⟨Nat.le_of_ble_eq_true rfl, Nat.le_of_ble_eq_true rfl⟩) (Nat.le_of_ble_eq_true rfl) (by omega) (fun r_1 X1 M1 K1 h_2 => ?_)
  obtain ⟨rfl, hX1, hM1, hK1⟩ := h_2
  subst X1 M1 K1
  refine g_topi (y := 115) hb ?_
  refine g_istore C dL_passes_226 (L' := [(10, .int 115), (0, .ref (gad G 42)), (1, .ref (gsa G 900)), (2, .int 99), (3, .int (nI v)), (4, .int at9), (5, .int hd), (6, .int (nI ln)), (9, .int 1)]) rfl (by rw [hL]; decide) ?_
  refine g_iload C dL_passes_228 8 rfl ?_
  refine g_if_eq C dL_passes_230 (tgt := 268) (by decide) (fun c_230 => absurd c_230 (by decide)) (fun c_230 => ?_)
  refine g_aload_n C dL_passes_233 1 rfl ?_
  refine gf_L_o C tw363 dL_passes_234 ?_
  refine g_callViW C dL_passes_237 (c_X10_logLength _ _ _ _ _ _ _ _ _ (by omega) (by omega)) tw1165 tw1166 tw1167 tw1 tw1168 (rv_X10 C) rfl ⟨by decide +kernel, by decide +kernel, rfl⟩ ⟨rfl, rfl⟩ (by rw [hR]; exact ⟨Nat.le_of_ble_eq_true rfl, Nat.le_of_ble_eq_true rfl⟩) (Nat.le_of_ble_eq_true rfl) (by omega) (fun r_3 X1 M1 K1 h_4 => ?_)
  obtain ⟨rfl, hX1, hM1, hK1⟩ := h_4
  subst X1 M1 K1
  refine g_iload C dL_passes_240 7 rfl ?_
  refine g_icmp_le C dL_passes_242 (tgt := 249) (by decide) (fun c_242 => absurd c_242 (nI_ge hl (by omega))) (fun c_242 => ?_)
  refine g_iconst C dL_passes_245 (v := 1) (by decide) ?_
  refine g_goto C dL_passes_246 (tgt := 250) (by decide) ?_
  refine g_iload C dL_passes_250 0 rfl ?_
  refine g_iload_n C dL_passes_252 3 rfl ?_
  refine g_icmp_eq C dL_passes_253 (tgt := 260) (by decide) (fun c_253 => absurd c_253 (by decide)) (fun c_253 => ?_)
  refine g_iconst C dL_passes_256 (v := 1) (by decide) ?_
  refine g_goto C dL_passes_257 (tgt := 261) (by decide) ?_
  refine g_icmp_ne C dL_passes_261 (tgt := 268) (by decide) (fun c_261 => absurd c_261 (by decide)) (fun c_261 => ?_)
  refine g_iconst C dL_passes_264 (v := 1) (by decide) ?_
  refine g_goto C dL_passes_265 (tgt := 269) (by decide) ?_
  refine g_istore C dL_passes_269 (L' := [(9, .int 1), (10, .int 115), (0, .ref (gad G 42)), (1, .ref (gsa G 900)), (2, .int 99), (3, .int (nI v)), (4, .int at9), (5, .int hd), (6, .int (nI ln))]) rfl (by rw [hL]; decide) ?_
  refine g_iload_n C dL_passes_271 4 rfl ?_
  refine g_bipush C dL_passes_272 (v := 99) (by decide) ?_
  refine g_icmp_eq C dL_passes_274 (tgt := 333) (by decide) (fun c_274 => ?_) (fun c_274 => absurd (by decide) c_274)
  refine g_aload_n C dL_passes_333 2 rfl ?_
  refine gf_L_o C tw363 dL_passes_334 ?_
  refine g_bipush C dL_passes_337 (v := 26) (by decide) ?_
  refine g_iconst C dL_passes_339 (v := 0) (by decide) ?_
  refine g_iconst C dL_passes_340 (v := 0) (by decide) ?_
  refine g_callSiW C dL_passes_341 (c_ask_26 _ _ _ _ _ _ _ _ _ (by rw [hb]; decide) _ _) tw1112 tw1113 tw0 tw1114 rfl ⟨by decide +kernel, by decide +kernel, rfl⟩ ⟨rfl, rfl⟩ (by rw [hR]; exact ⟨Nat.le_of_ble_eq_true rfl, Nat.le_of_ble_eq_true rfl⟩) (Nat.le_of_ble_eq_true rfl) (by omega) (fun r_5 X1 M1 K1 h_6 => ?_)
  obtain ⟨rfl, hX1, hM1, hK1⟩ := h_6
  subst X1 M1 K1
  refine g_iload C dL_passes_344 7 rfl ?_
  refine g_iconst C dL_passes_346 (v := 1) (by decide) ?_
  refine g_iadd C dL_passes_347 ?_
  refine g_icmp_ne C dL_passes_348 (tgt := 355) (by decide) (fun c_348 => ?_) (fun c_348 => ?_)
  · try simp only [sa_ap, si_ap, reduceIte, Nat.reduceEqDiff, up_us, lg_cmp_lt, lg_cmp_gt, lg_cmp_le, lg_cmp_ge] at c_348
    refine g_iconst C dL_passes_355 (v := 0) (by decide) ?_
    refine g_istore C dL_passes_356 (L' := [(11, .int 0), (9, .int 1), (10, .int 115), (0, .ref (gad G 42)), (1, .ref (gsa G 900)), (2, .int 99), (3, .int (nI v)), (4, .int at9), (5, .int hd), (6, .int (nI ln))]) rfl (by rw [hL]; decide) ?_
    refine g_iload C dL_passes_358 2 rfl ?_
    refine g_bipush C dL_passes_360 (v := 104) (by decide) ?_
    refine g_icmp_ne C dL_passes_362 (tgt := 391) (by decide) (fun c_362 => ?_) (fun c_362 => absurd c_362 (by decide))
    refine g_iload C dL_passes_391 2 rfl ?_
    refine g_bipush C dL_passes_393 (v := 115) (by decide) ?_
    refine g_icmp_ne C dL_passes_395 (tgt := 431) (by decide) (fun c_395 => absurd c_395 (by decide)) (fun c_395 => ?_)
    refine g_iload C dL_passes_398 1 rfl ?_
    refine g_if_eq C dL_passes_400 (tgt := 429) (by decide) (fun c_400 => absurd c_400 (by decide)) (fun c_400 => ?_)
    refine g_iload_n C dL_passes_403 6 rfl ?_
    refine g_iconst C dL_passes_404 (v := 1) (by decide) ?_
    refine g_iadd C dL_passes_405 ?_
    refine g_topi (y := nI (v + 1)) (nI_1 v) ?_
    refine g_aload_n C dL_passes_406 3 rfl ?_
    refine gf_L_o C tw363 dL_passes_407 ?_
    refine g_bipush C dL_passes_410 (v := 25) (by decide) ?_
    refine g_iconst C dL_passes_412 (v := 0) (by decide) ?_
    refine g_iconst C dL_passes_413 (v := 0) (by decide) ?_
    refine g_callSiW C dL_passes_414 (c_ask_25 _ _ _ _ _ _ _ _ _ (by rw [hb]; decide) _ _) tw1112 tw1113 tw0 tw1114 rfl ⟨by decide +kernel, by decide +kernel, rfl⟩ ⟨rfl, rfl⟩ (by rw [hR]; exact ⟨Nat.le_of_ble_eq_true rfl, Nat.le_of_ble_eq_true rfl⟩) (Nat.le_of_ble_eq_true rfl) (by omega) (fun r_7 X1 M1 K1 h_8 => ?_)
    obtain ⟨rfl, hX1, hM1, hK1⟩ := h_8
    subst X1 M1 K1
    refine g_isub C dL_passes_417 ?_
    refine g_aload_n C dL_passes_418 3 rfl ?_
    refine gf_L_shuts C tw370 dL_passes_419 ?_
    refine g_icmp_le C dL_passes_422 (tgt := 429) (by decide) (fun c_422 => absurd c_422 (Int32.not_le.mpr hs)) (fun c_422 => ?_)
    refine g_iconst C dL_passes_425 (v := 1) (by decide) ?_
    refine g_goto C dL_passes_426 (tgt := 430) (by decide) ?_
    refine g_zretW C hr (by decide) hQ (by omega) (by omega) dL_passes_430 ?_
    exact ⟨rfl, I, (by rw [hb]; decide)⟩
  · try simp only [sa_ap, si_ap, reduceIte, Nat.reduceEqDiff, up_us, lg_cmp_lt, lg_cmp_gt, lg_cmp_le, lg_cmp_ge] at c_348
    refine g_iconst C dL_passes_351 (v := 1) (by decide) ?_
    refine g_goto C dL_passes_352 (tgt := 356) (by decide) ?_
    refine g_istore C dL_passes_356 (L' := [(11, .int 1), (9, .int 1), (10, .int 115), (0, .ref (gad G 42)), (1, .ref (gsa G 900)), (2, .int 99), (3, .int (nI v)), (4, .int at9), (5, .int hd), (6, .int (nI ln))]) rfl (by rw [hL]; decide) ?_
    refine g_iload C dL_passes_358 2 rfl ?_
    refine g_bipush C dL_passes_360 (v := 104) (by decide) ?_
    refine g_icmp_ne C dL_passes_362 (tgt := 391) (by decide) (fun c_362 => ?_) (fun c_362 => absurd c_362 (by decide))
    refine g_iload C dL_passes_391 2 rfl ?_
    refine g_bipush C dL_passes_393 (v := 115) (by decide) ?_
    refine g_icmp_ne C dL_passes_395 (tgt := 431) (by decide) (fun c_395 => absurd c_395 (by decide)) (fun c_395 => ?_)
    refine g_iload C dL_passes_398 1 rfl ?_
    refine g_if_eq C dL_passes_400 (tgt := 429) (by decide) (fun c_400 => absurd c_400 (by decide)) (fun c_400 => ?_)
    refine g_iload_n C dL_passes_403 6 rfl ?_
    refine g_iconst C dL_passes_404 (v := 1) (by decide) ?_
    refine g_iadd C dL_passes_405 ?_
    refine g_topi (y := nI (v + 1)) (nI_1 v) ?_
    refine g_aload_n C dL_passes_406 3 rfl ?_
    refine gf_L_o C tw363 dL_passes_407 ?_
    refine g_bipush C dL_passes_410 (v := 25) (by decide) ?_
    refine g_iconst C dL_passes_412 (v := 0) (by decide) ?_
    refine g_iconst C dL_passes_413 (v := 0) (by decide) ?_
    refine g_callSiW C dL_passes_414 (c_ask_25 _ _ _ _ _ _ _ _ _ (by rw [hb]; decide) _ _) tw1112 tw1113 tw0 tw1114 rfl ⟨by decide +kernel, by decide +kernel, rfl⟩ ⟨rfl, rfl⟩ (by rw [hR]; exact ⟨Nat.le_of_ble_eq_true rfl, Nat.le_of_ble_eq_true rfl⟩) (Nat.le_of_ble_eq_true rfl) (by omega) (fun r_9 X1 M1 K1 h_10 => ?_)
    obtain ⟨rfl, hX1, hM1, hK1⟩ := h_10
    subst X1 M1 K1
    refine g_isub C dL_passes_417 ?_
    refine g_aload_n C dL_passes_418 3 rfl ?_
    refine gf_L_shuts C tw370 dL_passes_419 ?_
    refine g_icmp_le C dL_passes_422 (tgt := 429) (by decide) (fun c_422 => absurd c_422 (Int32.not_le.mpr hs)) (fun c_422 => ?_)
    refine g_iconst C dL_passes_425 (v := 1) (by decide) ?_
    refine g_goto C dL_passes_426 (tgt := 430) (by decide) ?_
    refine g_zretW C hr (by decide) hQ (by omega) (by omega) dL_passes_430 ?_
    exact ⟨rfl, I, (by rw [hb]; decide)⟩

set_option maxHeartbeats 1000000 in
set_option maxRecDepth 100000 in
theorem pt_99_99 {G : MC} (C : Cx G cL_passes yL_passes.cls) (hst : (gl G).stackTraces = false) (hR : gR G = { frames := 17, cells := 13, slots := 32015, locals := 461 }) (hL : gL G = 12) (hr : (gme G).sig.returnType = some .boolean) {e v z5 : Nat} {Z M : XF} {K : KF} (I : IV (gsa G) e (v + 1) z5 Z M K) (at9 hd : Int32) (ln : Nat) (hln : ln ≤ 2000) (hb : Z 118 0 = 99) (hl : (K.2.2.1 0).length = ln) (h9 : Z 109 0 = hd) (hlf : lf (gsa G) Z M at9 6 0 = 6) (h6 : Z 106 0 = at9 + 1) (hsh : nI (v + 1) - (at9 + 1) ≤ M 101 0) (hlt : at9 < -1) (hQ : gQ G = MQ (gbe G) (QiW (gD G) (gcy G) (gA G) (gad G) (fun r X1 M1 K1 => r = 1 ∧ IV (gsa G) e (v + 1) z5 X1 M1 K1 ∧ ¬ X1 118 0 = 45)) (gas G) (gs G) 13 32015 (gA G)) : GH G (WX G Z M K) [(0, .ref (gad G 42)), (1, .ref (gsa G 900)), (2, .int 99), (3, .int (nI v)), (4, .int at9), (5, .int hd), (6, .int (nI ln)), (9, .int 1)] 12 32009 219 [] := by
  have hrc : (gR G).cells = 13 := by rw [hR]
  have hrs : (gR G).slots = 32015 := by rw [hR]
  have hlen := I.len
  have hnum := I.num
  refine g_aload_n C dL_passes_219 0 rfl ?_
  refine gf_L_o C tw363 dL_passes_220 ?_
  refine g_callViW C dL_passes_223 (c_X10_state _ _ _ _ _ _ _ _ _ I.ch118) tw1141 tw1142 tw1143 tw1 tw1144 (rv_X10 C) rfl ⟨by decide +kernel, by decide +kernel, rfl⟩ ⟨rfl, rfl⟩ (by rw [hR]; exact ⟨Nat.le_of_ble_eq_true rfl, Nat.le_of_ble_eq_true rfl⟩) (Nat.le_of_ble_eq_true rfl) (by omega) (fun r_1 X1 M1 K1 h_2 => ?_)
  obtain ⟨rfl, hX1, hM1, hK1⟩ := h_2
  subst X1 M1 K1
  refine g_topi (y := 99) hb ?_
  refine g_istore C dL_passes_226 (L' := [(10, .int 99), (0, .ref (gad G 42)), (1, .ref (gsa G 900)), (2, .int 99), (3, .int (nI v)), (4, .int at9), (5, .int hd), (6, .int (nI ln)), (9, .int 1)]) rfl (by rw [hL]; decide) ?_
  refine g_iload C dL_passes_228 8 rfl ?_
  refine g_if_eq C dL_passes_230 (tgt := 268) (by decide) (fun c_230 => absurd c_230 (by decide)) (fun c_230 => ?_)
  refine g_aload_n C dL_passes_233 1 rfl ?_
  refine gf_L_o C tw363 dL_passes_234 ?_
  refine g_callViW C dL_passes_237 (c_X10_logLength _ _ _ _ _ _ _ _ _ (by omega) (by omega)) tw1165 tw1166 tw1167 tw1 tw1168 (rv_X10 C) rfl ⟨by decide +kernel, by decide +kernel, rfl⟩ ⟨rfl, rfl⟩ (by rw [hR]; exact ⟨Nat.le_of_ble_eq_true rfl, Nat.le_of_ble_eq_true rfl⟩) (Nat.le_of_ble_eq_true rfl) (by omega) (fun r_3 X1 M1 K1 h_4 => ?_)
  obtain ⟨rfl, hX1, hM1, hK1⟩ := h_4
  subst X1 M1 K1
  refine g_iload C dL_passes_240 7 rfl ?_
  refine g_icmp_le C dL_passes_242 (tgt := 249) (by decide) (fun c_242 => ?_) (fun c_242 => absurd (nI_le (Nat.le_of_eq hl) (by omega)) c_242)
  refine g_iconst C dL_passes_249 (v := 0) (by decide) ?_
  refine g_iload C dL_passes_250 0 rfl ?_
  refine g_iload_n C dL_passes_252 3 rfl ?_
  refine g_icmp_eq C dL_passes_253 (tgt := 260) (by decide) (fun c_253 => ?_) (fun c_253 => absurd (by decide) c_253)
  refine g_iconst C dL_passes_260 (v := 0) (by decide) ?_
  refine g_icmp_ne C dL_passes_261 (tgt := 268) (by decide) (fun c_261 => absurd c_261 (by decide)) (fun c_261 => ?_)
  refine g_iconst C dL_passes_264 (v := 1) (by decide) ?_
  refine g_goto C dL_passes_265 (tgt := 269) (by decide) ?_
  refine g_istore C dL_passes_269 (L' := [(9, .int 1), (10, .int 99), (0, .ref (gad G 42)), (1, .ref (gsa G 900)), (2, .int 99), (3, .int (nI v)), (4, .int at9), (5, .int hd), (6, .int (nI ln))]) rfl (by rw [hL]; decide) ?_
  refine g_iload_n C dL_passes_271 4 rfl ?_
  refine g_bipush C dL_passes_272 (v := 99) (by decide) ?_
  refine g_icmp_eq C dL_passes_274 (tgt := 333) (by decide) (fun c_274 => ?_) (fun c_274 => absurd (by decide) c_274)
  refine g_aload_n C dL_passes_333 2 rfl ?_
  refine gf_L_o C tw363 dL_passes_334 ?_
  refine g_bipush C dL_passes_337 (v := 26) (by decide) ?_
  refine g_iconst C dL_passes_339 (v := 0) (by decide) ?_
  refine g_iconst C dL_passes_340 (v := 0) (by decide) ?_
  refine g_callSiW C dL_passes_341 (c_ask_26 _ _ _ _ _ _ _ _ _ (by rw [hb]; decide) _ _) tw1112 tw1113 tw0 tw1114 rfl ⟨by decide +kernel, by decide +kernel, rfl⟩ ⟨rfl, rfl⟩ (by rw [hR]; exact ⟨Nat.le_of_ble_eq_true rfl, Nat.le_of_ble_eq_true rfl⟩) (Nat.le_of_ble_eq_true rfl) (by omega) (fun r_5 X1 M1 K1 h_6 => ?_)
  obtain ⟨rfl, hX1, hM1, hK1⟩ := h_6
  subst X1 M1 K1
  refine g_iload C dL_passes_344 7 rfl ?_
  refine g_iconst C dL_passes_346 (v := 1) (by decide) ?_
  refine g_iadd C dL_passes_347 ?_
  refine g_icmp_ne C dL_passes_348 (tgt := 355) (by decide) (fun c_348 => ?_) (fun c_348 => absurd c_348 (by rw [h9]; exact ne1 hd))
  refine g_iconst C dL_passes_355 (v := 0) (by decide) ?_
  refine g_istore C dL_passes_356 (L' := [(11, .int 0), (9, .int 1), (10, .int 99), (0, .ref (gad G 42)), (1, .ref (gsa G 900)), (2, .int 99), (3, .int (nI v)), (4, .int at9), (5, .int hd), (6, .int (nI ln))]) rfl (by rw [hL]; decide) ?_
  refine g_iload C dL_passes_358 2 rfl ?_
  refine g_bipush C dL_passes_360 (v := 104) (by decide) ?_
  refine g_icmp_ne C dL_passes_362 (tgt := 391) (by decide) (fun c_362 => ?_) (fun c_362 => absurd c_362 (by decide))
  refine g_iload C dL_passes_391 2 rfl ?_
  refine g_bipush C dL_passes_393 (v := 115) (by decide) ?_
  refine g_icmp_ne C dL_passes_395 (tgt := 431) (by decide) (fun c_395 => ?_) (fun c_395 => absurd c_395 (by decide))
  refine g_iload C dL_passes_431 1 rfl ?_
  refine g_if_eq C dL_passes_433 (tgt := 490) (by decide) (fun c_433 => absurd c_433 (by decide)) (fun c_433 => ?_)
  refine g_iload C dL_passes_436 0 rfl ?_
  refine g_if_ne C dL_passes_438 (tgt := 490) (by decide) (fun c_438 => absurd c_438 (by decide)) (fun c_438 => ?_)
  refine g_aload_n C dL_passes_441 3 rfl ?_
  refine g_aload_n C dL_passes_442 4 rfl ?_
  refine g_iload C dL_passes_443 7 rfl ?_
  refine g_callViW C dL_passes_445 (c_L_firstNotMet _ _ _ _ _ _ _ _ _ at9 I.x6 I.okA) tw1178 tw1180 tp22 tw0 tw1181 (rv_L C) rfl ⟨by decide +kernel, by decide +kernel, rfl⟩ ⟨rfl, rfl⟩ (by rw [hR]; exact ⟨Nat.le_of_ble_eq_true rfl, Nat.le_of_ble_eq_true rfl⟩) (Nat.le_of_ble_eq_true rfl) (by omega) (fun r_7 X1 M1 K1 h_8 => ?_)
  obtain ⟨rfl, hX1, hM1, hK1⟩ := h_8
  subst X1 M1 K1
  refine g_topi (y := 6) (by rw [hlf]; rfl) ?_
  refine g_bipush C dL_passes_448 (v := 6) (by decide) ?_
  refine g_icmp_ne C dL_passes_450 (tgt := 490) (by decide) (fun c_450 => absurd c_450 (by decide)) (fun c_450 => ?_)
  refine g_aload_n C dL_passes_453 3 rfl ?_
  refine gf_L_o C tw363 dL_passes_454 ?_
  refine g_bipush C dL_passes_457 (v := 25) (by decide) ?_
  refine g_iconst C dL_passes_459 (v := 0) (by decide) ?_
  refine g_iconst C dL_passes_460 (v := 0) (by decide) ?_
  refine g_callSiW C dL_passes_461 (c_ask_25 _ _ _ _ _ _ _ _ _ (by rw [hb]; decide) _ _) tw1112 tw1113 tw0 tw1114 rfl ⟨by decide +kernel, by decide +kernel, rfl⟩ ⟨rfl, rfl⟩ (by rw [hR]; exact ⟨Nat.le_of_ble_eq_true rfl, Nat.le_of_ble_eq_true rfl⟩) (Nat.le_of_ble_eq_true rfl) (by omega) (fun r_9 X1 M1 K1 h_10 => ?_)
  obtain ⟨rfl, hX1, hM1, hK1⟩ := h_10
  subst X1 M1 K1
  refine g_iload C dL_passes_464 7 rfl ?_
  refine g_iconst C dL_passes_466 (v := 1) (by decide) ?_
  refine g_iadd C dL_passes_467 ?_
  refine g_icmp_ne C dL_passes_468 (tgt := 490) (by decide) (fun c_468 => absurd c_468 (not_not_intro h6)) (fun c_468 => ?_)
  refine g_iload_n C dL_passes_471 6 rfl ?_
  refine g_iconst C dL_passes_472 (v := 1) (by decide) ?_
  refine g_iadd C dL_passes_473 ?_
  refine g_topi (y := nI (v + 1)) (nI_1 v) ?_
  refine g_iload C dL_passes_474 7 rfl ?_
  refine g_iconst C dL_passes_476 (v := 1) (by decide) ?_
  refine g_iadd C dL_passes_477 ?_
  refine g_isub C dL_passes_478 ?_
  refine g_aload_n C dL_passes_479 3 rfl ?_
  refine gf_L_shuts C tw370 dL_passes_480 ?_
  refine g_icmp_gt C dL_passes_483 (tgt := 490) (by decide) (fun c_483 => absurd c_483 (Int32.not_lt.mpr hsh)) (fun c_483 => ?_)
  refine g_iconst C dL_passes_486 (v := 1) (by decide) ?_
  refine g_goto C dL_passes_487 (tgt := 491) (by decide) ?_
  refine g_istore C dL_passes_491 (L' := [(9, .int 1), (11, .int 0), (10, .int 99), (0, .ref (gad G 42)), (1, .ref (gsa G 900)), (2, .int 99), (3, .int (nI v)), (4, .int at9), (5, .int hd), (6, .int (nI ln))]) rfl (by rw [hL]; decide) ?_
  refine g_iload C dL_passes_493 0 rfl ?_
  refine g_if_eq C dL_passes_495 (tgt := 551) (by decide) (fun c_495 => absurd c_495 (by decide)) (fun c_495 => ?_)
  refine g_iload C dL_passes_498 2 rfl ?_
  refine g_bipush C dL_passes_500 (v := 102) (by decide) ?_
  refine g_icmp_ne C dL_passes_502 (tgt := 534) (by decide) (fun c_502 => ?_) (fun c_502 => absurd c_502 (by decide))
  refine g_iload C dL_passes_534 2 rfl ?_
  refine g_bipush C dL_passes_536 (v := 99) (by decide) ?_
  refine g_icmp_ne C dL_passes_538 (tgt := 551) (by decide) (fun c_538 => absurd c_538 (by decide)) (fun c_538 => ?_)
  refine g_iload C dL_passes_541 7 rfl ?_
  refine g_iconst C dL_passes_543 (v := (-1)) (by decide) ?_
  refine g_icmp_ge C dL_passes_544 (tgt := 551) (by decide) (fun c_544 => absurd c_544 (Int32.not_le.mpr hlt)) (fun c_544 => ?_)
  refine g_iconst C dL_passes_547 (v := 1) (by decide) ?_
  refine g_goto C dL_passes_548 (tgt := 552) (by decide) ?_
  refine g_zretW C hr (by decide) hQ (by omega) (by omega) dL_passes_552 ?_
  exact ⟨rfl, I, (by rw [hb]; decide)⟩

set_option maxHeartbeats 1000000 in
set_option maxRecDepth 100000 in
theorem pt_99_102 {G : MC} (C : Cx G cL_passes yL_passes.cls) (hst : (gl G).stackTraces = false) (hR : gR G = { frames := 17, cells := 13, slots := 32015, locals := 461 }) (hL : gL G = 12) (hr : (gme G).sig.returnType = some .boolean) {e v z5 : Nat} {Z M : XF} {K : KF} (I : IV (gsa G) e (v + 1) z5 Z M K) (at9 hd : Int32) (ln : Nat) (hln : ln ≤ 2000) (hb : Z 118 0 = 102) (hl : ln < (K.2.2.1 0).length) (h9 : Z 109 0 = hd) (hlf : lf (gsa G) Z M at9 6 0 = 6) (h6 : Z 106 0 = at9 + 1) (hsh : nI (v + 1) - (at9 + 1) ≤ M 101 0) (hm1 : at9 = -1) (hop : M 100 0 ≤ nI (v + 1)) (hs2 : nI (v + 1) ≤ M 101 0) (hQ : gQ G = MQ (gbe G) (QiW (gD G) (gcy G) (gA G) (gad G) (fun r X1 M1 K1 => r = 1 ∧ IV (gsa G) e (v + 1) z5 X1 M1 K1 ∧ ¬ X1 118 0 = 45)) (gas G) (gs G) 13 32015 (gA G)) : GH G (WX G Z M K) [(0, .ref (gad G 42)), (1, .ref (gsa G 900)), (2, .int 99), (3, .int (nI v)), (4, .int at9), (5, .int hd), (6, .int (nI ln)), (9, .int 1)] 12 32009 219 [] := by
  have hrc : (gR G).cells = 13 := by rw [hR]
  have hrs : (gR G).slots = 32015 := by rw [hR]
  have hlen := I.len
  have hnum := I.num
  refine g_aload_n C dL_passes_219 0 rfl ?_
  refine gf_L_o C tw363 dL_passes_220 ?_
  refine g_callViW C dL_passes_223 (c_X10_state _ _ _ _ _ _ _ _ _ I.ch118) tw1141 tw1142 tw1143 tw1 tw1144 (rv_X10 C) rfl ⟨by decide +kernel, by decide +kernel, rfl⟩ ⟨rfl, rfl⟩ (by rw [hR]; exact ⟨Nat.le_of_ble_eq_true rfl, Nat.le_of_ble_eq_true rfl⟩) (Nat.le_of_ble_eq_true rfl) (by omega) (fun r_1 X1 M1 K1 h_2 => ?_)
  obtain ⟨rfl, hX1, hM1, hK1⟩ := h_2
  subst X1 M1 K1
  refine g_topi (y := 102) hb ?_
  refine g_istore C dL_passes_226 (L' := [(10, .int 102), (0, .ref (gad G 42)), (1, .ref (gsa G 900)), (2, .int 99), (3, .int (nI v)), (4, .int at9), (5, .int hd), (6, .int (nI ln)), (9, .int 1)]) rfl (by rw [hL]; decide) ?_
  refine g_iload C dL_passes_228 8 rfl ?_
  refine g_if_eq C dL_passes_230 (tgt := 268) (by decide) (fun c_230 => absurd c_230 (by decide)) (fun c_230 => ?_)
  refine g_aload_n C dL_passes_233 1 rfl ?_
  refine gf_L_o C tw363 dL_passes_234 ?_
  refine g_callViW C dL_passes_237 (c_X10_logLength _ _ _ _ _ _ _ _ _ (by omega) (by omega)) tw1165 tw1166 tw1167 tw1 tw1168 (rv_X10 C) rfl ⟨by decide +kernel, by decide +kernel, rfl⟩ ⟨rfl, rfl⟩ (by rw [hR]; exact ⟨Nat.le_of_ble_eq_true rfl, Nat.le_of_ble_eq_true rfl⟩) (Nat.le_of_ble_eq_true rfl) (by omega) (fun r_3 X1 M1 K1 h_4 => ?_)
  obtain ⟨rfl, hX1, hM1, hK1⟩ := h_4
  subst X1 M1 K1
  refine g_iload C dL_passes_240 7 rfl ?_
  refine g_icmp_le C dL_passes_242 (tgt := 249) (by decide) (fun c_242 => absurd c_242 (nI_ge hl (by omega))) (fun c_242 => ?_)
  refine g_iconst C dL_passes_245 (v := 1) (by decide) ?_
  refine g_goto C dL_passes_246 (tgt := 250) (by decide) ?_
  refine g_iload C dL_passes_250 0 rfl ?_
  refine g_iload_n C dL_passes_252 3 rfl ?_
  refine g_icmp_eq C dL_passes_253 (tgt := 260) (by decide) (fun c_253 => absurd c_253 (by decide)) (fun c_253 => ?_)
  refine g_iconst C dL_passes_256 (v := 1) (by decide) ?_
  refine g_goto C dL_passes_257 (tgt := 261) (by decide) ?_
  refine g_icmp_ne C dL_passes_261 (tgt := 268) (by decide) (fun c_261 => absurd c_261 (by decide)) (fun c_261 => ?_)
  refine g_iconst C dL_passes_264 (v := 1) (by decide) ?_
  refine g_goto C dL_passes_265 (tgt := 269) (by decide) ?_
  refine g_istore C dL_passes_269 (L' := [(9, .int 1), (10, .int 102), (0, .ref (gad G 42)), (1, .ref (gsa G 900)), (2, .int 99), (3, .int (nI v)), (4, .int at9), (5, .int hd), (6, .int (nI ln))]) rfl (by rw [hL]; decide) ?_
  refine g_iload_n C dL_passes_271 4 rfl ?_
  refine g_bipush C dL_passes_272 (v := 99) (by decide) ?_
  refine g_icmp_eq C dL_passes_274 (tgt := 333) (by decide) (fun c_274 => ?_) (fun c_274 => absurd (by decide) c_274)
  refine g_aload_n C dL_passes_333 2 rfl ?_
  refine gf_L_o C tw363 dL_passes_334 ?_
  refine g_bipush C dL_passes_337 (v := 26) (by decide) ?_
  refine g_iconst C dL_passes_339 (v := 0) (by decide) ?_
  refine g_iconst C dL_passes_340 (v := 0) (by decide) ?_
  refine g_callSiW C dL_passes_341 (c_ask_26 _ _ _ _ _ _ _ _ _ (by rw [hb]; decide) _ _) tw1112 tw1113 tw0 tw1114 rfl ⟨by decide +kernel, by decide +kernel, rfl⟩ ⟨rfl, rfl⟩ (by rw [hR]; exact ⟨Nat.le_of_ble_eq_true rfl, Nat.le_of_ble_eq_true rfl⟩) (Nat.le_of_ble_eq_true rfl) (by omega) (fun r_5 X1 M1 K1 h_6 => ?_)
  obtain ⟨rfl, hX1, hM1, hK1⟩ := h_6
  subst X1 M1 K1
  refine g_iload C dL_passes_344 7 rfl ?_
  refine g_iconst C dL_passes_346 (v := 1) (by decide) ?_
  refine g_iadd C dL_passes_347 ?_
  refine g_icmp_ne C dL_passes_348 (tgt := 355) (by decide) (fun c_348 => ?_) (fun c_348 => absurd c_348 (by rw [h9]; exact ne1 hd))
  refine g_iconst C dL_passes_355 (v := 0) (by decide) ?_
  refine g_istore C dL_passes_356 (L' := [(11, .int 0), (9, .int 1), (10, .int 102), (0, .ref (gad G 42)), (1, .ref (gsa G 900)), (2, .int 99), (3, .int (nI v)), (4, .int at9), (5, .int hd), (6, .int (nI ln))]) rfl (by rw [hL]; decide) ?_
  refine g_iload C dL_passes_358 2 rfl ?_
  refine g_bipush C dL_passes_360 (v := 104) (by decide) ?_
  refine g_icmp_ne C dL_passes_362 (tgt := 391) (by decide) (fun c_362 => ?_) (fun c_362 => absurd c_362 (by decide))
  refine g_iload C dL_passes_391 2 rfl ?_
  refine g_bipush C dL_passes_393 (v := 115) (by decide) ?_
  refine g_icmp_ne C dL_passes_395 (tgt := 431) (by decide) (fun c_395 => ?_) (fun c_395 => absurd c_395 (by decide))
  refine g_iload C dL_passes_431 1 rfl ?_
  refine g_if_eq C dL_passes_433 (tgt := 490) (by decide) (fun c_433 => absurd c_433 (by decide)) (fun c_433 => ?_)
  refine g_iload C dL_passes_436 0 rfl ?_
  refine g_if_ne C dL_passes_438 (tgt := 490) (by decide) (fun c_438 => absurd c_438 (by decide)) (fun c_438 => ?_)
  refine g_aload_n C dL_passes_441 3 rfl ?_
  refine g_aload_n C dL_passes_442 4 rfl ?_
  refine g_iload C dL_passes_443 7 rfl ?_
  refine g_callViW C dL_passes_445 (c_L_firstNotMet _ _ _ _ _ _ _ _ _ at9 I.x6 I.okA) tw1178 tw1180 tp22 tw0 tw1181 (rv_L C) rfl ⟨by decide +kernel, by decide +kernel, rfl⟩ ⟨rfl, rfl⟩ (by rw [hR]; exact ⟨Nat.le_of_ble_eq_true rfl, Nat.le_of_ble_eq_true rfl⟩) (Nat.le_of_ble_eq_true rfl) (by omega) (fun r_7 X1 M1 K1 h_8 => ?_)
  obtain ⟨rfl, hX1, hM1, hK1⟩ := h_8
  subst X1 M1 K1
  refine g_topi (y := 6) (by rw [hlf]; rfl) ?_
  refine g_bipush C dL_passes_448 (v := 6) (by decide) ?_
  refine g_icmp_ne C dL_passes_450 (tgt := 490) (by decide) (fun c_450 => absurd c_450 (by decide)) (fun c_450 => ?_)
  refine g_aload_n C dL_passes_453 3 rfl ?_
  refine gf_L_o C tw363 dL_passes_454 ?_
  refine g_bipush C dL_passes_457 (v := 25) (by decide) ?_
  refine g_iconst C dL_passes_459 (v := 0) (by decide) ?_
  refine g_iconst C dL_passes_460 (v := 0) (by decide) ?_
  refine g_callSiW C dL_passes_461 (c_ask_25 _ _ _ _ _ _ _ _ _ (by rw [hb]; decide) _ _) tw1112 tw1113 tw0 tw1114 rfl ⟨by decide +kernel, by decide +kernel, rfl⟩ ⟨rfl, rfl⟩ (by rw [hR]; exact ⟨Nat.le_of_ble_eq_true rfl, Nat.le_of_ble_eq_true rfl⟩) (Nat.le_of_ble_eq_true rfl) (by omega) (fun r_9 X1 M1 K1 h_10 => ?_)
  obtain ⟨rfl, hX1, hM1, hK1⟩ := h_10
  subst X1 M1 K1
  refine g_iload C dL_passes_464 7 rfl ?_
  refine g_iconst C dL_passes_466 (v := 1) (by decide) ?_
  refine g_iadd C dL_passes_467 ?_
  refine g_icmp_ne C dL_passes_468 (tgt := 490) (by decide) (fun c_468 => absurd c_468 (not_not_intro h6)) (fun c_468 => ?_)
  refine g_iload_n C dL_passes_471 6 rfl ?_
  refine g_iconst C dL_passes_472 (v := 1) (by decide) ?_
  refine g_iadd C dL_passes_473 ?_
  refine g_topi (y := nI (v + 1)) (nI_1 v) ?_
  refine g_iload C dL_passes_474 7 rfl ?_
  refine g_iconst C dL_passes_476 (v := 1) (by decide) ?_
  refine g_iadd C dL_passes_477 ?_
  refine g_isub C dL_passes_478 ?_
  refine g_aload_n C dL_passes_479 3 rfl ?_
  refine gf_L_shuts C tw370 dL_passes_480 ?_
  refine g_icmp_gt C dL_passes_483 (tgt := 490) (by decide) (fun c_483 => absurd c_483 (Int32.not_lt.mpr hsh)) (fun c_483 => ?_)
  refine g_iconst C dL_passes_486 (v := 1) (by decide) ?_
  refine g_goto C dL_passes_487 (tgt := 491) (by decide) ?_
  refine g_istore C dL_passes_491 (L' := [(9, .int 1), (11, .int 0), (10, .int 102), (0, .ref (gad G 42)), (1, .ref (gsa G 900)), (2, .int 99), (3, .int (nI v)), (4, .int at9), (5, .int hd), (6, .int (nI ln))]) rfl (by rw [hL]; decide) ?_
  refine g_iload C dL_passes_493 0 rfl ?_
  refine g_if_eq C dL_passes_495 (tgt := 551) (by decide) (fun c_495 => absurd c_495 (by decide)) (fun c_495 => ?_)
  refine g_iload C dL_passes_498 2 rfl ?_
  refine g_bipush C dL_passes_500 (v := 102) (by decide) ?_
  refine g_icmp_ne C dL_passes_502 (tgt := 534) (by decide) (fun c_502 => absurd c_502 (by decide)) (fun c_502 => ?_)
  refine g_iload C dL_passes_505 7 rfl ?_
  refine g_iconst C dL_passes_507 (v := (-1)) (by decide) ?_
  refine g_icmp_ne C dL_passes_508 (tgt := 551) (by decide) (fun c_508 => absurd c_508 (not_not_intro hm1)) (fun c_508 => ?_)
  refine g_iload_n C dL_passes_511 6 rfl ?_
  refine g_iconst C dL_passes_512 (v := 1) (by decide) ?_
  refine g_iadd C dL_passes_513 ?_
  refine g_topi (y := nI (v + 1)) (nI_1 v) ?_
  refine g_aload_n C dL_passes_514 3 rfl ?_
  refine gf_L_opens C tw369 dL_passes_515 ?_
  refine g_icmp_lt C dL_passes_518 (tgt := 551) (by decide) (fun c_518 => absurd c_518 (Int32.not_lt.mpr hop)) (fun c_518 => ?_)
  refine g_iload_n C dL_passes_521 6 rfl ?_
  refine g_iconst C dL_passes_522 (v := 1) (by decide) ?_
  refine g_iadd C dL_passes_523 ?_
  refine g_topi (y := nI (v + 1)) (nI_1 v) ?_
  refine g_aload_n C dL_passes_524 3 rfl ?_
  refine gf_L_shuts C tw370 dL_passes_525 ?_
  refine g_icmp_gt C dL_passes_528 (tgt := 551) (by decide) (fun c_528 => absurd c_528 (Int32.not_lt.mpr hs2)) (fun c_528 => ?_)
  refine g_goto C dL_passes_531 (tgt := 547) (by decide) ?_
  refine g_iconst C dL_passes_547 (v := 1) (by decide) ?_
  refine g_goto C dL_passes_548 (tgt := 552) (by decide) ?_
  refine g_zretW C hr (by decide) hQ (by omega) (by omega) dL_passes_552 ?_
  exact ⟨rfl, I, (by rw [hb]; decide)⟩

set_option maxHeartbeats 1000000 in
set_option maxRecDepth 100000 in
theorem pt_104_104 {G : MC} (C : Cx G cL_passes yL_passes.cls) (hst : (gl G).stackTraces = false) (hR : gR G = { frames := 17, cells := 13, slots := 32015, locals := 461 }) (hL : gL G = 12) (hr : (gme G).sig.returnType = some .boolean) {e v z5 : Nat} {Z M : XF} {K : KF} (I : IV (gsa G) e (v + 1) z5 Z M K) (at9 hd : Int32) (ln : Nat) (hln : ln ≤ 2000) (hb : Z 118 0 = 104) (hl : (K.2.2.1 0).length = ln) (h9 : Z 109 0 = hd + 1) (h6 : Z 106 0 = at9) (h1 : ∀ f : Nat, lf (gsa G) Z M at9 6 0 = f → f < 6 → Z 111 0 = kndB.getD f 0 ∧ Z 112 0 = nI f) (h2 : lf (gsa G) Z M at9 6 0 = 6 → Z 112 0 = -1 ∧ (Z 111 0 = 109 ∨ Z 111 0 = 111 ∧ at9 = -1 ∧ Z 101 0 < M 100 0)) (hQ : gQ G = MQ (gbe G) (QiW (gD G) (gcy G) (gA G) (gad G) (fun r X1 M1 K1 => r = 1 ∧ IV (gsa G) e (v + 1) z5 X1 M1 K1 ∧ ¬ X1 118 0 = 45)) (gas G) (gs G) 13 32015 (gA G)) : GH G (WX G Z M K) [(0, .ref (gad G 42)), (1, .ref (gsa G 900)), (2, .int 104), (3, .int (nI v)), (4, .int at9), (5, .int hd), (6, .int (nI ln)), (9, .int 1)] 12 32009 219 [] := by
  have hrc : (gR G).cells = 13 := by rw [hR]
  have hrs : (gR G).slots = 32015 := by rw [hR]
  have hlen := I.len
  have hnum := I.num
  refine g_aload_n C dL_passes_219 0 rfl ?_
  refine gf_L_o C tw363 dL_passes_220 ?_
  refine g_callViW C dL_passes_223 (c_X10_state _ _ _ _ _ _ _ _ _ I.ch118) tw1141 tw1142 tw1143 tw1 tw1144 (rv_X10 C) rfl ⟨by decide +kernel, by decide +kernel, rfl⟩ ⟨rfl, rfl⟩ (by rw [hR]; exact ⟨Nat.le_of_ble_eq_true rfl, Nat.le_of_ble_eq_true rfl⟩) (Nat.le_of_ble_eq_true rfl) (by omega) (fun r_1 X1 M1 K1 h_2 => ?_)
  obtain ⟨rfl, hX1, hM1, hK1⟩ := h_2
  subst X1 M1 K1
  refine g_topi (y := 104) hb ?_
  refine g_istore C dL_passes_226 (L' := [(10, .int 104), (0, .ref (gad G 42)), (1, .ref (gsa G 900)), (2, .int 104), (3, .int (nI v)), (4, .int at9), (5, .int hd), (6, .int (nI ln)), (9, .int 1)]) rfl (by rw [hL]; decide) ?_
  refine g_iload C dL_passes_228 8 rfl ?_
  refine g_if_eq C dL_passes_230 (tgt := 268) (by decide) (fun c_230 => absurd c_230 (by decide)) (fun c_230 => ?_)
  refine g_aload_n C dL_passes_233 1 rfl ?_
  refine gf_L_o C tw363 dL_passes_234 ?_
  refine g_callViW C dL_passes_237 (c_X10_logLength _ _ _ _ _ _ _ _ _ (by omega) (by omega)) tw1165 tw1166 tw1167 tw1 tw1168 (rv_X10 C) rfl ⟨by decide +kernel, by decide +kernel, rfl⟩ ⟨rfl, rfl⟩ (by rw [hR]; exact ⟨Nat.le_of_ble_eq_true rfl, Nat.le_of_ble_eq_true rfl⟩) (Nat.le_of_ble_eq_true rfl) (by omega) (fun r_3 X1 M1 K1 h_4 => ?_)
  obtain ⟨rfl, hX1, hM1, hK1⟩ := h_4
  subst X1 M1 K1
  refine g_iload C dL_passes_240 7 rfl ?_
  refine g_icmp_le C dL_passes_242 (tgt := 249) (by decide) (fun c_242 => ?_) (fun c_242 => absurd (nI_le (Nat.le_of_eq hl) (by omega)) c_242)
  refine g_iconst C dL_passes_249 (v := 0) (by decide) ?_
  refine g_iload C dL_passes_250 0 rfl ?_
  refine g_iload_n C dL_passes_252 3 rfl ?_
  refine g_icmp_eq C dL_passes_253 (tgt := 260) (by decide) (fun c_253 => ?_) (fun c_253 => absurd (by decide) c_253)
  refine g_iconst C dL_passes_260 (v := 0) (by decide) ?_
  refine g_icmp_ne C dL_passes_261 (tgt := 268) (by decide) (fun c_261 => absurd c_261 (by decide)) (fun c_261 => ?_)
  refine g_iconst C dL_passes_264 (v := 1) (by decide) ?_
  refine g_goto C dL_passes_265 (tgt := 269) (by decide) ?_
  refine g_istore C dL_passes_269 (L' := [(9, .int 1), (10, .int 104), (0, .ref (gad G 42)), (1, .ref (gsa G 900)), (2, .int 104), (3, .int (nI v)), (4, .int at9), (5, .int hd), (6, .int (nI ln))]) rfl (by rw [hL]; decide) ?_
  refine g_iload_n C dL_passes_271 4 rfl ?_
  refine g_bipush C dL_passes_272 (v := 99) (by decide) ?_
  refine g_icmp_eq C dL_passes_274 (tgt := 333) (by decide) (fun c_274 => absurd c_274 (by decide)) (fun c_274 => ?_)
  refine g_iload_n C dL_passes_277 4 rfl ?_
  refine g_bipush C dL_passes_278 (v := 104) (by decide) ?_
  refine g_icmp_eq C dL_passes_280 (tgt := 333) (by decide) (fun c_280 => ?_) (fun c_280 => absurd (by decide) c_280)
  refine g_aload_n C dL_passes_333 2 rfl ?_
  refine gf_L_o C tw363 dL_passes_334 ?_
  refine g_bipush C dL_passes_337 (v := 26) (by decide) ?_
  refine g_iconst C dL_passes_339 (v := 0) (by decide) ?_
  refine g_iconst C dL_passes_340 (v := 0) (by decide) ?_
  refine g_callSiW C dL_passes_341 (c_ask_26 _ _ _ _ _ _ _ _ _ (by rw [hb]; decide) _ _) tw1112 tw1113 tw0 tw1114 rfl ⟨by decide +kernel, by decide +kernel, rfl⟩ ⟨rfl, rfl⟩ (by rw [hR]; exact ⟨Nat.le_of_ble_eq_true rfl, Nat.le_of_ble_eq_true rfl⟩) (Nat.le_of_ble_eq_true rfl) (by omega) (fun r_5 X1 M1 K1 h_6 => ?_)
  obtain ⟨rfl, hX1, hM1, hK1⟩ := h_6
  subst X1 M1 K1
  refine g_iload C dL_passes_344 7 rfl ?_
  refine g_iconst C dL_passes_346 (v := 1) (by decide) ?_
  refine g_iadd C dL_passes_347 ?_
  refine g_icmp_ne C dL_passes_348 (tgt := 355) (by decide) (fun c_348 => absurd c_348 (not_not_intro h9)) (fun c_348 => ?_)
  refine g_iconst C dL_passes_351 (v := 1) (by decide) ?_
  refine g_goto C dL_passes_352 (tgt := 356) (by decide) ?_
  refine g_istore C dL_passes_356 (L' := [(11, .int 1), (9, .int 1), (10, .int 104), (0, .ref (gad G 42)), (1, .ref (gsa G 900)), (2, .int 104), (3, .int (nI v)), (4, .int at9), (5, .int hd), (6, .int (nI ln))]) rfl (by rw [hL]; decide) ?_
  refine g_iload C dL_passes_358 2 rfl ?_
  refine g_bipush C dL_passes_360 (v := 104) (by decide) ?_
  refine g_icmp_ne C dL_passes_362 (tgt := 391) (by decide) (fun c_362 => absurd c_362 (by decide)) (fun c_362 => ?_)
  refine g_iload C dL_passes_365 1 rfl ?_
  refine g_if_eq C dL_passes_367 (tgt := 389) (by decide) (fun c_367 => absurd c_367 (by decide)) (fun c_367 => ?_)
  refine g_iload C dL_passes_370 0 rfl ?_
  refine g_if_eq C dL_passes_372 (tgt := 389) (by decide) (fun c_372 => absurd c_372 (by decide)) (fun c_372 => ?_)
  refine g_aload_n C dL_passes_375 3 rfl ?_
  refine g_aload_n C dL_passes_376 4 rfl ?_
  refine g_iload C dL_passes_377 7 rfl ?_
  refine g_callViW C dL_passes_379 (c_L_isHeldRight _ _ _ _ _ _ _ _ _ at9 I.x6 I.okA hb I.ch111 h6 h1 h2 hst) tw1174 tw1176 tp21 tw0 tw1177 (rv_L C) rfl ⟨by decide +kernel, by decide +kernel, rfl⟩ ⟨rfl, rfl⟩ (by rw [hR]; exact ⟨Nat.le_of_ble_eq_true rfl, Nat.le_of_ble_eq_true rfl⟩) (Nat.le_of_ble_eq_true rfl) (by omega) (fun r_7 X1 M1 K1 h_8 => ?_)
  obtain ⟨rfl, hX1, hM1, hK1⟩ := h_8
  subst X1 M1 K1
  refine g_if_eq C dL_passes_382 (tgt := 389) (by decide) (fun c_382 => absurd c_382 (by decide)) (fun c_382 => ?_)
  refine g_iconst C dL_passes_385 (v := 1) (by decide) ?_
  refine g_goto C dL_passes_386 (tgt := 390) (by decide) ?_
  refine g_zretW C hr (by decide) hQ (by omega) (by omega) dL_passes_390 ?_
  exact ⟨rfl, I, (by rw [hb]; decide)⟩

set_option maxHeartbeats 1000000 in
set_option maxRecDepth 100000 in
theorem pt_104_115 {G : MC} (C : Cx G cL_passes yL_passes.cls) (hst : (gl G).stackTraces = false) (hR : gR G = { frames := 17, cells := 13, slots := 32015, locals := 461 }) (hL : gL G = 12) (hr : (gme G).sig.returnType = some .boolean) {e v z5 : Nat} {Z M : XF} {K : KF} (I : IV (gsa G) e (v + 1) z5 Z M K) (at9 hd : Int32) (ln : Nat) (hln : ln ≤ 2000) (hb : Z 118 0 = 115) (hl : ln < (K.2.2.1 0).length) (hs : M 101 0 < nI (v + 1) - Z 106 0) (hQ : gQ G = MQ (gbe G) (QiW (gD G) (gcy G) (gA G) (gad G) (fun r X1 M1 K1 => r = 1 ∧ IV (gsa G) e (v + 1) z5 X1 M1 K1 ∧ ¬ X1 118 0 = 45)) (gas G) (gs G) 13 32015 (gA G)) : GH G (WX G Z M K) [(0, .ref (gad G 42)), (1, .ref (gsa G 900)), (2, .int 104), (3, .int (nI v)), (4, .int at9), (5, .int hd), (6, .int (nI ln)), (9, .int 1)] 12 32009 219 [] := by
  have hrc : (gR G).cells = 13 := by rw [hR]
  have hrs : (gR G).slots = 32015 := by rw [hR]
  have hlen := I.len
  have hnum := I.num
  refine g_aload_n C dL_passes_219 0 rfl ?_
  refine gf_L_o C tw363 dL_passes_220 ?_
  refine g_callViW C dL_passes_223 (c_X10_state _ _ _ _ _ _ _ _ _ I.ch118) tw1141 tw1142 tw1143 tw1 tw1144 (rv_X10 C) rfl ⟨by decide +kernel, by decide +kernel, rfl⟩ ⟨rfl, rfl⟩ (by rw [hR]; exact ⟨Nat.le_of_ble_eq_true rfl, Nat.le_of_ble_eq_true rfl⟩) (Nat.le_of_ble_eq_true rfl) (by omega) (fun r_1 X1 M1 K1 h_2 => ?_)
  obtain ⟨rfl, hX1, hM1, hK1⟩ := h_2
  subst X1 M1 K1
  refine g_topi (y := 115) hb ?_
  refine g_istore C dL_passes_226 (L' := [(10, .int 115), (0, .ref (gad G 42)), (1, .ref (gsa G 900)), (2, .int 104), (3, .int (nI v)), (4, .int at9), (5, .int hd), (6, .int (nI ln)), (9, .int 1)]) rfl (by rw [hL]; decide) ?_
  refine g_iload C dL_passes_228 8 rfl ?_
  refine g_if_eq C dL_passes_230 (tgt := 268) (by decide) (fun c_230 => absurd c_230 (by decide)) (fun c_230 => ?_)
  refine g_aload_n C dL_passes_233 1 rfl ?_
  refine gf_L_o C tw363 dL_passes_234 ?_
  refine g_callViW C dL_passes_237 (c_X10_logLength _ _ _ _ _ _ _ _ _ (by omega) (by omega)) tw1165 tw1166 tw1167 tw1 tw1168 (rv_X10 C) rfl ⟨by decide +kernel, by decide +kernel, rfl⟩ ⟨rfl, rfl⟩ (by rw [hR]; exact ⟨Nat.le_of_ble_eq_true rfl, Nat.le_of_ble_eq_true rfl⟩) (Nat.le_of_ble_eq_true rfl) (by omega) (fun r_3 X1 M1 K1 h_4 => ?_)
  obtain ⟨rfl, hX1, hM1, hK1⟩ := h_4
  subst X1 M1 K1
  refine g_iload C dL_passes_240 7 rfl ?_
  refine g_icmp_le C dL_passes_242 (tgt := 249) (by decide) (fun c_242 => absurd c_242 (nI_ge hl (by omega))) (fun c_242 => ?_)
  refine g_iconst C dL_passes_245 (v := 1) (by decide) ?_
  refine g_goto C dL_passes_246 (tgt := 250) (by decide) ?_
  refine g_iload C dL_passes_250 0 rfl ?_
  refine g_iload_n C dL_passes_252 3 rfl ?_
  refine g_icmp_eq C dL_passes_253 (tgt := 260) (by decide) (fun c_253 => absurd c_253 (by decide)) (fun c_253 => ?_)
  refine g_iconst C dL_passes_256 (v := 1) (by decide) ?_
  refine g_goto C dL_passes_257 (tgt := 261) (by decide) ?_
  refine g_icmp_ne C dL_passes_261 (tgt := 268) (by decide) (fun c_261 => absurd c_261 (by decide)) (fun c_261 => ?_)
  refine g_iconst C dL_passes_264 (v := 1) (by decide) ?_
  refine g_goto C dL_passes_265 (tgt := 269) (by decide) ?_
  refine g_istore C dL_passes_269 (L' := [(9, .int 1), (10, .int 115), (0, .ref (gad G 42)), (1, .ref (gsa G 900)), (2, .int 104), (3, .int (nI v)), (4, .int at9), (5, .int hd), (6, .int (nI ln))]) rfl (by rw [hL]; decide) ?_
  refine g_iload_n C dL_passes_271 4 rfl ?_
  refine g_bipush C dL_passes_272 (v := 99) (by decide) ?_
  refine g_icmp_eq C dL_passes_274 (tgt := 333) (by decide) (fun c_274 => absurd c_274 (by decide)) (fun c_274 => ?_)
  refine g_iload_n C dL_passes_277 4 rfl ?_
  refine g_bipush C dL_passes_278 (v := 104) (by decide) ?_
  refine g_icmp_eq C dL_passes_280 (tgt := 333) (by decide) (fun c_280 => ?_) (fun c_280 => absurd (by decide) c_280)
  refine g_aload_n C dL_passes_333 2 rfl ?_
  refine gf_L_o C tw363 dL_passes_334 ?_
  refine g_bipush C dL_passes_337 (v := 26) (by decide) ?_
  refine g_iconst C dL_passes_339 (v := 0) (by decide) ?_
  refine g_iconst C dL_passes_340 (v := 0) (by decide) ?_
  refine g_callSiW C dL_passes_341 (c_ask_26 _ _ _ _ _ _ _ _ _ (by rw [hb]; decide) _ _) tw1112 tw1113 tw0 tw1114 rfl ⟨by decide +kernel, by decide +kernel, rfl⟩ ⟨rfl, rfl⟩ (by rw [hR]; exact ⟨Nat.le_of_ble_eq_true rfl, Nat.le_of_ble_eq_true rfl⟩) (Nat.le_of_ble_eq_true rfl) (by omega) (fun r_5 X1 M1 K1 h_6 => ?_)
  obtain ⟨rfl, hX1, hM1, hK1⟩ := h_6
  subst X1 M1 K1
  refine g_iload C dL_passes_344 7 rfl ?_
  refine g_iconst C dL_passes_346 (v := 1) (by decide) ?_
  refine g_iadd C dL_passes_347 ?_
  refine g_icmp_ne C dL_passes_348 (tgt := 355) (by decide) (fun c_348 => ?_) (fun c_348 => ?_)
  · try simp only [sa_ap, si_ap, reduceIte, Nat.reduceEqDiff, up_us, lg_cmp_lt, lg_cmp_gt, lg_cmp_le, lg_cmp_ge] at c_348
    refine g_iconst C dL_passes_355 (v := 0) (by decide) ?_
    refine g_istore C dL_passes_356 (L' := [(11, .int 0), (9, .int 1), (10, .int 115), (0, .ref (gad G 42)), (1, .ref (gsa G 900)), (2, .int 104), (3, .int (nI v)), (4, .int at9), (5, .int hd), (6, .int (nI ln))]) rfl (by rw [hL]; decide) ?_
    refine g_iload C dL_passes_358 2 rfl ?_
    refine g_bipush C dL_passes_360 (v := 104) (by decide) ?_
    refine g_icmp_ne C dL_passes_362 (tgt := 391) (by decide) (fun c_362 => ?_) (fun c_362 => absurd c_362 (by decide))
    refine g_iload C dL_passes_391 2 rfl ?_
    refine g_bipush C dL_passes_393 (v := 115) (by decide) ?_
    refine g_icmp_ne C dL_passes_395 (tgt := 431) (by decide) (fun c_395 => absurd c_395 (by decide)) (fun c_395 => ?_)
    refine g_iload C dL_passes_398 1 rfl ?_
    refine g_if_eq C dL_passes_400 (tgt := 429) (by decide) (fun c_400 => absurd c_400 (by decide)) (fun c_400 => ?_)
    refine g_iload_n C dL_passes_403 6 rfl ?_
    refine g_iconst C dL_passes_404 (v := 1) (by decide) ?_
    refine g_iadd C dL_passes_405 ?_
    refine g_topi (y := nI (v + 1)) (nI_1 v) ?_
    refine g_aload_n C dL_passes_406 3 rfl ?_
    refine gf_L_o C tw363 dL_passes_407 ?_
    refine g_bipush C dL_passes_410 (v := 25) (by decide) ?_
    refine g_iconst C dL_passes_412 (v := 0) (by decide) ?_
    refine g_iconst C dL_passes_413 (v := 0) (by decide) ?_
    refine g_callSiW C dL_passes_414 (c_ask_25 _ _ _ _ _ _ _ _ _ (by rw [hb]; decide) _ _) tw1112 tw1113 tw0 tw1114 rfl ⟨by decide +kernel, by decide +kernel, rfl⟩ ⟨rfl, rfl⟩ (by rw [hR]; exact ⟨Nat.le_of_ble_eq_true rfl, Nat.le_of_ble_eq_true rfl⟩) (Nat.le_of_ble_eq_true rfl) (by omega) (fun r_7 X1 M1 K1 h_8 => ?_)
    obtain ⟨rfl, hX1, hM1, hK1⟩ := h_8
    subst X1 M1 K1
    refine g_isub C dL_passes_417 ?_
    refine g_aload_n C dL_passes_418 3 rfl ?_
    refine gf_L_shuts C tw370 dL_passes_419 ?_
    refine g_icmp_le C dL_passes_422 (tgt := 429) (by decide) (fun c_422 => absurd c_422 (Int32.not_le.mpr hs)) (fun c_422 => ?_)
    refine g_iconst C dL_passes_425 (v := 1) (by decide) ?_
    refine g_goto C dL_passes_426 (tgt := 430) (by decide) ?_
    refine g_zretW C hr (by decide) hQ (by omega) (by omega) dL_passes_430 ?_
    exact ⟨rfl, I, (by rw [hb]; decide)⟩
  · try simp only [sa_ap, si_ap, reduceIte, Nat.reduceEqDiff, up_us, lg_cmp_lt, lg_cmp_gt, lg_cmp_le, lg_cmp_ge] at c_348
    refine g_iconst C dL_passes_351 (v := 1) (by decide) ?_
    refine g_goto C dL_passes_352 (tgt := 356) (by decide) ?_
    refine g_istore C dL_passes_356 (L' := [(11, .int 1), (9, .int 1), (10, .int 115), (0, .ref (gad G 42)), (1, .ref (gsa G 900)), (2, .int 104), (3, .int (nI v)), (4, .int at9), (5, .int hd), (6, .int (nI ln))]) rfl (by rw [hL]; decide) ?_
    refine g_iload C dL_passes_358 2 rfl ?_
    refine g_bipush C dL_passes_360 (v := 104) (by decide) ?_
    refine g_icmp_ne C dL_passes_362 (tgt := 391) (by decide) (fun c_362 => ?_) (fun c_362 => absurd c_362 (by decide))
    refine g_iload C dL_passes_391 2 rfl ?_
    refine g_bipush C dL_passes_393 (v := 115) (by decide) ?_
    refine g_icmp_ne C dL_passes_395 (tgt := 431) (by decide) (fun c_395 => absurd c_395 (by decide)) (fun c_395 => ?_)
    refine g_iload C dL_passes_398 1 rfl ?_
    refine g_if_eq C dL_passes_400 (tgt := 429) (by decide) (fun c_400 => absurd c_400 (by decide)) (fun c_400 => ?_)
    refine g_iload_n C dL_passes_403 6 rfl ?_
    refine g_iconst C dL_passes_404 (v := 1) (by decide) ?_
    refine g_iadd C dL_passes_405 ?_
    refine g_topi (y := nI (v + 1)) (nI_1 v) ?_
    refine g_aload_n C dL_passes_406 3 rfl ?_
    refine gf_L_o C tw363 dL_passes_407 ?_
    refine g_bipush C dL_passes_410 (v := 25) (by decide) ?_
    refine g_iconst C dL_passes_412 (v := 0) (by decide) ?_
    refine g_iconst C dL_passes_413 (v := 0) (by decide) ?_
    refine g_callSiW C dL_passes_414 (c_ask_25 _ _ _ _ _ _ _ _ _ (by rw [hb]; decide) _ _) tw1112 tw1113 tw0 tw1114 rfl ⟨by decide +kernel, by decide +kernel, rfl⟩ ⟨rfl, rfl⟩ (by rw [hR]; exact ⟨Nat.le_of_ble_eq_true rfl, Nat.le_of_ble_eq_true rfl⟩) (Nat.le_of_ble_eq_true rfl) (by omega) (fun r_9 X1 M1 K1 h_10 => ?_)
    obtain ⟨rfl, hX1, hM1, hK1⟩ := h_10
    subst X1 M1 K1
    refine g_isub C dL_passes_417 ?_
    refine g_aload_n C dL_passes_418 3 rfl ?_
    refine gf_L_shuts C tw370 dL_passes_419 ?_
    refine g_icmp_le C dL_passes_422 (tgt := 429) (by decide) (fun c_422 => absurd c_422 (Int32.not_le.mpr hs)) (fun c_422 => ?_)
    refine g_iconst C dL_passes_425 (v := 1) (by decide) ?_
    refine g_goto C dL_passes_426 (tgt := 430) (by decide) ?_
    refine g_zretW C hr (by decide) hQ (by omega) (by omega) dL_passes_430 ?_
    exact ⟨rfl, I, (by rw [hb]; decide)⟩

set_option maxHeartbeats 1000000 in
set_option maxRecDepth 100000 in
theorem pt_104_99 {G : MC} (C : Cx G cL_passes yL_passes.cls) (hst : (gl G).stackTraces = false) (hR : gR G = { frames := 17, cells := 13, slots := 32015, locals := 461 }) (hL : gL G = 12) (hr : (gme G).sig.returnType = some .boolean) {e v z5 : Nat} {Z M : XF} {K : KF} (I : IV (gsa G) e (v + 1) z5 Z M K) (at9 hd : Int32) (ln : Nat) (hln : ln ≤ 2000) (hb : Z 118 0 = 99) (hl : ln < (K.2.2.1 0).length) (h9 : Z 109 0 = hd) (hlf : lf (gsa G) Z M at9 6 0 = 6) (h6 : Z 106 0 = at9 + 1) (hsh : nI (v + 1) - (at9 + 1) ≤ M 101 0) (hlt : at9 < -1) (hQ : gQ G = MQ (gbe G) (QiW (gD G) (gcy G) (gA G) (gad G) (fun r X1 M1 K1 => r = 1 ∧ IV (gsa G) e (v + 1) z5 X1 M1 K1 ∧ ¬ X1 118 0 = 45)) (gas G) (gs G) 13 32015 (gA G)) : GH G (WX G Z M K) [(0, .ref (gad G 42)), (1, .ref (gsa G 900)), (2, .int 104), (3, .int (nI v)), (4, .int at9), (5, .int hd), (6, .int (nI ln)), (9, .int 1)] 12 32009 219 [] := by
  have hrc : (gR G).cells = 13 := by rw [hR]
  have hrs : (gR G).slots = 32015 := by rw [hR]
  have hlen := I.len
  have hnum := I.num
  refine g_aload_n C dL_passes_219 0 rfl ?_
  refine gf_L_o C tw363 dL_passes_220 ?_
  refine g_callViW C dL_passes_223 (c_X10_state _ _ _ _ _ _ _ _ _ I.ch118) tw1141 tw1142 tw1143 tw1 tw1144 (rv_X10 C) rfl ⟨by decide +kernel, by decide +kernel, rfl⟩ ⟨rfl, rfl⟩ (by rw [hR]; exact ⟨Nat.le_of_ble_eq_true rfl, Nat.le_of_ble_eq_true rfl⟩) (Nat.le_of_ble_eq_true rfl) (by omega) (fun r_1 X1 M1 K1 h_2 => ?_)
  obtain ⟨rfl, hX1, hM1, hK1⟩ := h_2
  subst X1 M1 K1
  refine g_topi (y := 99) hb ?_
  refine g_istore C dL_passes_226 (L' := [(10, .int 99), (0, .ref (gad G 42)), (1, .ref (gsa G 900)), (2, .int 104), (3, .int (nI v)), (4, .int at9), (5, .int hd), (6, .int (nI ln)), (9, .int 1)]) rfl (by rw [hL]; decide) ?_
  refine g_iload C dL_passes_228 8 rfl ?_
  refine g_if_eq C dL_passes_230 (tgt := 268) (by decide) (fun c_230 => absurd c_230 (by decide)) (fun c_230 => ?_)
  refine g_aload_n C dL_passes_233 1 rfl ?_
  refine gf_L_o C tw363 dL_passes_234 ?_
  refine g_callViW C dL_passes_237 (c_X10_logLength _ _ _ _ _ _ _ _ _ (by omega) (by omega)) tw1165 tw1166 tw1167 tw1 tw1168 (rv_X10 C) rfl ⟨by decide +kernel, by decide +kernel, rfl⟩ ⟨rfl, rfl⟩ (by rw [hR]; exact ⟨Nat.le_of_ble_eq_true rfl, Nat.le_of_ble_eq_true rfl⟩) (Nat.le_of_ble_eq_true rfl) (by omega) (fun r_3 X1 M1 K1 h_4 => ?_)
  obtain ⟨rfl, hX1, hM1, hK1⟩ := h_4
  subst X1 M1 K1
  refine g_iload C dL_passes_240 7 rfl ?_
  refine g_icmp_le C dL_passes_242 (tgt := 249) (by decide) (fun c_242 => absurd c_242 (nI_ge hl (by omega))) (fun c_242 => ?_)
  refine g_iconst C dL_passes_245 (v := 1) (by decide) ?_
  refine g_goto C dL_passes_246 (tgt := 250) (by decide) ?_
  refine g_iload C dL_passes_250 0 rfl ?_
  refine g_iload_n C dL_passes_252 3 rfl ?_
  refine g_icmp_eq C dL_passes_253 (tgt := 260) (by decide) (fun c_253 => absurd c_253 (by decide)) (fun c_253 => ?_)
  refine g_iconst C dL_passes_256 (v := 1) (by decide) ?_
  refine g_goto C dL_passes_257 (tgt := 261) (by decide) ?_
  refine g_icmp_ne C dL_passes_261 (tgt := 268) (by decide) (fun c_261 => absurd c_261 (by decide)) (fun c_261 => ?_)
  refine g_iconst C dL_passes_264 (v := 1) (by decide) ?_
  refine g_goto C dL_passes_265 (tgt := 269) (by decide) ?_
  refine g_istore C dL_passes_269 (L' := [(9, .int 1), (10, .int 99), (0, .ref (gad G 42)), (1, .ref (gsa G 900)), (2, .int 104), (3, .int (nI v)), (4, .int at9), (5, .int hd), (6, .int (nI ln))]) rfl (by rw [hL]; decide) ?_
  refine g_iload_n C dL_passes_271 4 rfl ?_
  refine g_bipush C dL_passes_272 (v := 99) (by decide) ?_
  refine g_icmp_eq C dL_passes_274 (tgt := 333) (by decide) (fun c_274 => absurd c_274 (by decide)) (fun c_274 => ?_)
  refine g_iload_n C dL_passes_277 4 rfl ?_
  refine g_bipush C dL_passes_278 (v := 104) (by decide) ?_
  refine g_icmp_eq C dL_passes_280 (tgt := 333) (by decide) (fun c_280 => ?_) (fun c_280 => absurd (by decide) c_280)
  refine g_aload_n C dL_passes_333 2 rfl ?_
  refine gf_L_o C tw363 dL_passes_334 ?_
  refine g_bipush C dL_passes_337 (v := 26) (by decide) ?_
  refine g_iconst C dL_passes_339 (v := 0) (by decide) ?_
  refine g_iconst C dL_passes_340 (v := 0) (by decide) ?_
  refine g_callSiW C dL_passes_341 (c_ask_26 _ _ _ _ _ _ _ _ _ (by rw [hb]; decide) _ _) tw1112 tw1113 tw0 tw1114 rfl ⟨by decide +kernel, by decide +kernel, rfl⟩ ⟨rfl, rfl⟩ (by rw [hR]; exact ⟨Nat.le_of_ble_eq_true rfl, Nat.le_of_ble_eq_true rfl⟩) (Nat.le_of_ble_eq_true rfl) (by omega) (fun r_5 X1 M1 K1 h_6 => ?_)
  obtain ⟨rfl, hX1, hM1, hK1⟩ := h_6
  subst X1 M1 K1
  refine g_iload C dL_passes_344 7 rfl ?_
  refine g_iconst C dL_passes_346 (v := 1) (by decide) ?_
  refine g_iadd C dL_passes_347 ?_
  refine g_icmp_ne C dL_passes_348 (tgt := 355) (by decide) (fun c_348 => ?_) (fun c_348 => absurd c_348 (by rw [h9]; exact ne1 hd))
  refine g_iconst C dL_passes_355 (v := 0) (by decide) ?_
  refine g_istore C dL_passes_356 (L' := [(11, .int 0), (9, .int 1), (10, .int 99), (0, .ref (gad G 42)), (1, .ref (gsa G 900)), (2, .int 104), (3, .int (nI v)), (4, .int at9), (5, .int hd), (6, .int (nI ln))]) rfl (by rw [hL]; decide) ?_
  refine g_iload C dL_passes_358 2 rfl ?_
  refine g_bipush C dL_passes_360 (v := 104) (by decide) ?_
  refine g_icmp_ne C dL_passes_362 (tgt := 391) (by decide) (fun c_362 => ?_) (fun c_362 => absurd c_362 (by decide))
  refine g_iload C dL_passes_391 2 rfl ?_
  refine g_bipush C dL_passes_393 (v := 115) (by decide) ?_
  refine g_icmp_ne C dL_passes_395 (tgt := 431) (by decide) (fun c_395 => ?_) (fun c_395 => absurd c_395 (by decide))
  refine g_iload C dL_passes_431 1 rfl ?_
  refine g_if_eq C dL_passes_433 (tgt := 490) (by decide) (fun c_433 => absurd c_433 (by decide)) (fun c_433 => ?_)
  refine g_iload C dL_passes_436 0 rfl ?_
  refine g_if_ne C dL_passes_438 (tgt := 490) (by decide) (fun c_438 => absurd c_438 (by decide)) (fun c_438 => ?_)
  refine g_aload_n C dL_passes_441 3 rfl ?_
  refine g_aload_n C dL_passes_442 4 rfl ?_
  refine g_iload C dL_passes_443 7 rfl ?_
  refine g_callViW C dL_passes_445 (c_L_firstNotMet _ _ _ _ _ _ _ _ _ at9 I.x6 I.okA) tw1178 tw1180 tp22 tw0 tw1181 (rv_L C) rfl ⟨by decide +kernel, by decide +kernel, rfl⟩ ⟨rfl, rfl⟩ (by rw [hR]; exact ⟨Nat.le_of_ble_eq_true rfl, Nat.le_of_ble_eq_true rfl⟩) (Nat.le_of_ble_eq_true rfl) (by omega) (fun r_7 X1 M1 K1 h_8 => ?_)
  obtain ⟨rfl, hX1, hM1, hK1⟩ := h_8
  subst X1 M1 K1
  refine g_topi (y := 6) (by rw [hlf]; rfl) ?_
  refine g_bipush C dL_passes_448 (v := 6) (by decide) ?_
  refine g_icmp_ne C dL_passes_450 (tgt := 490) (by decide) (fun c_450 => absurd c_450 (by decide)) (fun c_450 => ?_)
  refine g_aload_n C dL_passes_453 3 rfl ?_
  refine gf_L_o C tw363 dL_passes_454 ?_
  refine g_bipush C dL_passes_457 (v := 25) (by decide) ?_
  refine g_iconst C dL_passes_459 (v := 0) (by decide) ?_
  refine g_iconst C dL_passes_460 (v := 0) (by decide) ?_
  refine g_callSiW C dL_passes_461 (c_ask_25 _ _ _ _ _ _ _ _ _ (by rw [hb]; decide) _ _) tw1112 tw1113 tw0 tw1114 rfl ⟨by decide +kernel, by decide +kernel, rfl⟩ ⟨rfl, rfl⟩ (by rw [hR]; exact ⟨Nat.le_of_ble_eq_true rfl, Nat.le_of_ble_eq_true rfl⟩) (Nat.le_of_ble_eq_true rfl) (by omega) (fun r_9 X1 M1 K1 h_10 => ?_)
  obtain ⟨rfl, hX1, hM1, hK1⟩ := h_10
  subst X1 M1 K1
  refine g_iload C dL_passes_464 7 rfl ?_
  refine g_iconst C dL_passes_466 (v := 1) (by decide) ?_
  refine g_iadd C dL_passes_467 ?_
  refine g_icmp_ne C dL_passes_468 (tgt := 490) (by decide) (fun c_468 => absurd c_468 (not_not_intro h6)) (fun c_468 => ?_)
  refine g_iload_n C dL_passes_471 6 rfl ?_
  refine g_iconst C dL_passes_472 (v := 1) (by decide) ?_
  refine g_iadd C dL_passes_473 ?_
  refine g_topi (y := nI (v + 1)) (nI_1 v) ?_
  refine g_iload C dL_passes_474 7 rfl ?_
  refine g_iconst C dL_passes_476 (v := 1) (by decide) ?_
  refine g_iadd C dL_passes_477 ?_
  refine g_isub C dL_passes_478 ?_
  refine g_aload_n C dL_passes_479 3 rfl ?_
  refine gf_L_shuts C tw370 dL_passes_480 ?_
  refine g_icmp_gt C dL_passes_483 (tgt := 490) (by decide) (fun c_483 => absurd c_483 (Int32.not_lt.mpr hsh)) (fun c_483 => ?_)
  refine g_iconst C dL_passes_486 (v := 1) (by decide) ?_
  refine g_goto C dL_passes_487 (tgt := 491) (by decide) ?_
  refine g_istore C dL_passes_491 (L' := [(9, .int 1), (11, .int 0), (10, .int 99), (0, .ref (gad G 42)), (1, .ref (gsa G 900)), (2, .int 104), (3, .int (nI v)), (4, .int at9), (5, .int hd), (6, .int (nI ln))]) rfl (by rw [hL]; decide) ?_
  refine g_iload C dL_passes_493 0 rfl ?_
  refine g_if_eq C dL_passes_495 (tgt := 551) (by decide) (fun c_495 => absurd c_495 (by decide)) (fun c_495 => ?_)
  refine g_iload C dL_passes_498 2 rfl ?_
  refine g_bipush C dL_passes_500 (v := 102) (by decide) ?_
  refine g_icmp_ne C dL_passes_502 (tgt := 534) (by decide) (fun c_502 => ?_) (fun c_502 => absurd c_502 (by decide))
  refine g_iload C dL_passes_534 2 rfl ?_
  refine g_bipush C dL_passes_536 (v := 99) (by decide) ?_
  refine g_icmp_ne C dL_passes_538 (tgt := 551) (by decide) (fun c_538 => absurd c_538 (by decide)) (fun c_538 => ?_)
  refine g_iload C dL_passes_541 7 rfl ?_
  refine g_iconst C dL_passes_543 (v := (-1)) (by decide) ?_
  refine g_icmp_ge C dL_passes_544 (tgt := 551) (by decide) (fun c_544 => absurd c_544 (Int32.not_le.mpr hlt)) (fun c_544 => ?_)
  refine g_iconst C dL_passes_547 (v := 1) (by decide) ?_
  refine g_goto C dL_passes_548 (tgt := 552) (by decide) ?_
  refine g_zretW C hr (by decide) hQ (by omega) (by omega) dL_passes_552 ?_
  exact ⟨rfl, I, (by rw [hb]; decide)⟩

set_option maxHeartbeats 1000000 in
set_option maxRecDepth 100000 in
theorem pt_104_102 {G : MC} (C : Cx G cL_passes yL_passes.cls) (hst : (gl G).stackTraces = false) (hR : gR G = { frames := 17, cells := 13, slots := 32015, locals := 461 }) (hL : gL G = 12) (hr : (gme G).sig.returnType = some .boolean) {e v z5 : Nat} {Z M : XF} {K : KF} (I : IV (gsa G) e (v + 1) z5 Z M K) (at9 hd : Int32) (ln : Nat) (hln : ln ≤ 2000) (hb : Z 118 0 = 102) (hl : ln < (K.2.2.1 0).length) (h9 : Z 109 0 = hd) (hlf : lf (gsa G) Z M at9 6 0 = 6) (h6 : Z 106 0 = at9 + 1) (hsh : nI (v + 1) - (at9 + 1) ≤ M 101 0) (hm1 : at9 = -1) (hop : M 100 0 ≤ nI (v + 1)) (hs2 : nI (v + 1) ≤ M 101 0) (hQ : gQ G = MQ (gbe G) (QiW (gD G) (gcy G) (gA G) (gad G) (fun r X1 M1 K1 => r = 1 ∧ IV (gsa G) e (v + 1) z5 X1 M1 K1 ∧ ¬ X1 118 0 = 45)) (gas G) (gs G) 13 32015 (gA G)) : GH G (WX G Z M K) [(0, .ref (gad G 42)), (1, .ref (gsa G 900)), (2, .int 104), (3, .int (nI v)), (4, .int at9), (5, .int hd), (6, .int (nI ln)), (9, .int 1)] 12 32009 219 [] := by
  have hrc : (gR G).cells = 13 := by rw [hR]
  have hrs : (gR G).slots = 32015 := by rw [hR]
  have hlen := I.len
  have hnum := I.num
  refine g_aload_n C dL_passes_219 0 rfl ?_
  refine gf_L_o C tw363 dL_passes_220 ?_
  refine g_callViW C dL_passes_223 (c_X10_state _ _ _ _ _ _ _ _ _ I.ch118) tw1141 tw1142 tw1143 tw1 tw1144 (rv_X10 C) rfl ⟨by decide +kernel, by decide +kernel, rfl⟩ ⟨rfl, rfl⟩ (by rw [hR]; exact ⟨Nat.le_of_ble_eq_true rfl, Nat.le_of_ble_eq_true rfl⟩) (Nat.le_of_ble_eq_true rfl) (by omega) (fun r_1 X1 M1 K1 h_2 => ?_)
  obtain ⟨rfl, hX1, hM1, hK1⟩ := h_2
  subst X1 M1 K1
  refine g_topi (y := 102) hb ?_
  refine g_istore C dL_passes_226 (L' := [(10, .int 102), (0, .ref (gad G 42)), (1, .ref (gsa G 900)), (2, .int 104), (3, .int (nI v)), (4, .int at9), (5, .int hd), (6, .int (nI ln)), (9, .int 1)]) rfl (by rw [hL]; decide) ?_
  refine g_iload C dL_passes_228 8 rfl ?_
  refine g_if_eq C dL_passes_230 (tgt := 268) (by decide) (fun c_230 => absurd c_230 (by decide)) (fun c_230 => ?_)
  refine g_aload_n C dL_passes_233 1 rfl ?_
  refine gf_L_o C tw363 dL_passes_234 ?_
  refine g_callViW C dL_passes_237 (c_X10_logLength _ _ _ _ _ _ _ _ _ (by omega) (by omega)) tw1165 tw1166 tw1167 tw1 tw1168 (rv_X10 C) rfl ⟨by decide +kernel, by decide +kernel, rfl⟩ ⟨rfl, rfl⟩ (by rw [hR]; exact ⟨Nat.le_of_ble_eq_true rfl, Nat.le_of_ble_eq_true rfl⟩) (Nat.le_of_ble_eq_true rfl) (by omega) (fun r_3 X1 M1 K1 h_4 => ?_)
  obtain ⟨rfl, hX1, hM1, hK1⟩ := h_4
  subst X1 M1 K1
  refine g_iload C dL_passes_240 7 rfl ?_
  refine g_icmp_le C dL_passes_242 (tgt := 249) (by decide) (fun c_242 => absurd c_242 (nI_ge hl (by omega))) (fun c_242 => ?_)
  refine g_iconst C dL_passes_245 (v := 1) (by decide) ?_
  refine g_goto C dL_passes_246 (tgt := 250) (by decide) ?_
  refine g_iload C dL_passes_250 0 rfl ?_
  refine g_iload_n C dL_passes_252 3 rfl ?_
  refine g_icmp_eq C dL_passes_253 (tgt := 260) (by decide) (fun c_253 => absurd c_253 (by decide)) (fun c_253 => ?_)
  refine g_iconst C dL_passes_256 (v := 1) (by decide) ?_
  refine g_goto C dL_passes_257 (tgt := 261) (by decide) ?_
  refine g_icmp_ne C dL_passes_261 (tgt := 268) (by decide) (fun c_261 => absurd c_261 (by decide)) (fun c_261 => ?_)
  refine g_iconst C dL_passes_264 (v := 1) (by decide) ?_
  refine g_goto C dL_passes_265 (tgt := 269) (by decide) ?_
  refine g_istore C dL_passes_269 (L' := [(9, .int 1), (10, .int 102), (0, .ref (gad G 42)), (1, .ref (gsa G 900)), (2, .int 104), (3, .int (nI v)), (4, .int at9), (5, .int hd), (6, .int (nI ln))]) rfl (by rw [hL]; decide) ?_
  refine g_iload_n C dL_passes_271 4 rfl ?_
  refine g_bipush C dL_passes_272 (v := 99) (by decide) ?_
  refine g_icmp_eq C dL_passes_274 (tgt := 333) (by decide) (fun c_274 => absurd c_274 (by decide)) (fun c_274 => ?_)
  refine g_iload_n C dL_passes_277 4 rfl ?_
  refine g_bipush C dL_passes_278 (v := 104) (by decide) ?_
  refine g_icmp_eq C dL_passes_280 (tgt := 333) (by decide) (fun c_280 => ?_) (fun c_280 => absurd (by decide) c_280)
  refine g_aload_n C dL_passes_333 2 rfl ?_
  refine gf_L_o C tw363 dL_passes_334 ?_
  refine g_bipush C dL_passes_337 (v := 26) (by decide) ?_
  refine g_iconst C dL_passes_339 (v := 0) (by decide) ?_
  refine g_iconst C dL_passes_340 (v := 0) (by decide) ?_
  refine g_callSiW C dL_passes_341 (c_ask_26 _ _ _ _ _ _ _ _ _ (by rw [hb]; decide) _ _) tw1112 tw1113 tw0 tw1114 rfl ⟨by decide +kernel, by decide +kernel, rfl⟩ ⟨rfl, rfl⟩ (by rw [hR]; exact ⟨Nat.le_of_ble_eq_true rfl, Nat.le_of_ble_eq_true rfl⟩) (Nat.le_of_ble_eq_true rfl) (by omega) (fun r_5 X1 M1 K1 h_6 => ?_)
  obtain ⟨rfl, hX1, hM1, hK1⟩ := h_6
  subst X1 M1 K1
  refine g_iload C dL_passes_344 7 rfl ?_
  refine g_iconst C dL_passes_346 (v := 1) (by decide) ?_
  refine g_iadd C dL_passes_347 ?_
  refine g_icmp_ne C dL_passes_348 (tgt := 355) (by decide) (fun c_348 => ?_) (fun c_348 => absurd c_348 (by rw [h9]; exact ne1 hd))
  refine g_iconst C dL_passes_355 (v := 0) (by decide) ?_
  refine g_istore C dL_passes_356 (L' := [(11, .int 0), (9, .int 1), (10, .int 102), (0, .ref (gad G 42)), (1, .ref (gsa G 900)), (2, .int 104), (3, .int (nI v)), (4, .int at9), (5, .int hd), (6, .int (nI ln))]) rfl (by rw [hL]; decide) ?_
  refine g_iload C dL_passes_358 2 rfl ?_
  refine g_bipush C dL_passes_360 (v := 104) (by decide) ?_
  refine g_icmp_ne C dL_passes_362 (tgt := 391) (by decide) (fun c_362 => ?_) (fun c_362 => absurd c_362 (by decide))
  refine g_iload C dL_passes_391 2 rfl ?_
  refine g_bipush C dL_passes_393 (v := 115) (by decide) ?_
  refine g_icmp_ne C dL_passes_395 (tgt := 431) (by decide) (fun c_395 => ?_) (fun c_395 => absurd c_395 (by decide))
  refine g_iload C dL_passes_431 1 rfl ?_
  refine g_if_eq C dL_passes_433 (tgt := 490) (by decide) (fun c_433 => absurd c_433 (by decide)) (fun c_433 => ?_)
  refine g_iload C dL_passes_436 0 rfl ?_
  refine g_if_ne C dL_passes_438 (tgt := 490) (by decide) (fun c_438 => absurd c_438 (by decide)) (fun c_438 => ?_)
  refine g_aload_n C dL_passes_441 3 rfl ?_
  refine g_aload_n C dL_passes_442 4 rfl ?_
  refine g_iload C dL_passes_443 7 rfl ?_
  refine g_callViW C dL_passes_445 (c_L_firstNotMet _ _ _ _ _ _ _ _ _ at9 I.x6 I.okA) tw1178 tw1180 tp22 tw0 tw1181 (rv_L C) rfl ⟨by decide +kernel, by decide +kernel, rfl⟩ ⟨rfl, rfl⟩ (by rw [hR]; exact ⟨Nat.le_of_ble_eq_true rfl, Nat.le_of_ble_eq_true rfl⟩) (Nat.le_of_ble_eq_true rfl) (by omega) (fun r_7 X1 M1 K1 h_8 => ?_)
  obtain ⟨rfl, hX1, hM1, hK1⟩ := h_8
  subst X1 M1 K1
  refine g_topi (y := 6) (by rw [hlf]; rfl) ?_
  refine g_bipush C dL_passes_448 (v := 6) (by decide) ?_
  refine g_icmp_ne C dL_passes_450 (tgt := 490) (by decide) (fun c_450 => absurd c_450 (by decide)) (fun c_450 => ?_)
  refine g_aload_n C dL_passes_453 3 rfl ?_
  refine gf_L_o C tw363 dL_passes_454 ?_
  refine g_bipush C dL_passes_457 (v := 25) (by decide) ?_
  refine g_iconst C dL_passes_459 (v := 0) (by decide) ?_
  refine g_iconst C dL_passes_460 (v := 0) (by decide) ?_
  refine g_callSiW C dL_passes_461 (c_ask_25 _ _ _ _ _ _ _ _ _ (by rw [hb]; decide) _ _) tw1112 tw1113 tw0 tw1114 rfl ⟨by decide +kernel, by decide +kernel, rfl⟩ ⟨rfl, rfl⟩ (by rw [hR]; exact ⟨Nat.le_of_ble_eq_true rfl, Nat.le_of_ble_eq_true rfl⟩) (Nat.le_of_ble_eq_true rfl) (by omega) (fun r_9 X1 M1 K1 h_10 => ?_)
  obtain ⟨rfl, hX1, hM1, hK1⟩ := h_10
  subst X1 M1 K1
  refine g_iload C dL_passes_464 7 rfl ?_
  refine g_iconst C dL_passes_466 (v := 1) (by decide) ?_
  refine g_iadd C dL_passes_467 ?_
  refine g_icmp_ne C dL_passes_468 (tgt := 490) (by decide) (fun c_468 => absurd c_468 (not_not_intro h6)) (fun c_468 => ?_)
  refine g_iload_n C dL_passes_471 6 rfl ?_
  refine g_iconst C dL_passes_472 (v := 1) (by decide) ?_
  refine g_iadd C dL_passes_473 ?_
  refine g_topi (y := nI (v + 1)) (nI_1 v) ?_
  refine g_iload C dL_passes_474 7 rfl ?_
  refine g_iconst C dL_passes_476 (v := 1) (by decide) ?_
  refine g_iadd C dL_passes_477 ?_
  refine g_isub C dL_passes_478 ?_
  refine g_aload_n C dL_passes_479 3 rfl ?_
  refine gf_L_shuts C tw370 dL_passes_480 ?_
  refine g_icmp_gt C dL_passes_483 (tgt := 490) (by decide) (fun c_483 => absurd c_483 (Int32.not_lt.mpr hsh)) (fun c_483 => ?_)
  refine g_iconst C dL_passes_486 (v := 1) (by decide) ?_
  refine g_goto C dL_passes_487 (tgt := 491) (by decide) ?_
  refine g_istore C dL_passes_491 (L' := [(9, .int 1), (11, .int 0), (10, .int 102), (0, .ref (gad G 42)), (1, .ref (gsa G 900)), (2, .int 104), (3, .int (nI v)), (4, .int at9), (5, .int hd), (6, .int (nI ln))]) rfl (by rw [hL]; decide) ?_
  refine g_iload C dL_passes_493 0 rfl ?_
  refine g_if_eq C dL_passes_495 (tgt := 551) (by decide) (fun c_495 => absurd c_495 (by decide)) (fun c_495 => ?_)
  refine g_iload C dL_passes_498 2 rfl ?_
  refine g_bipush C dL_passes_500 (v := 102) (by decide) ?_
  refine g_icmp_ne C dL_passes_502 (tgt := 534) (by decide) (fun c_502 => absurd c_502 (by decide)) (fun c_502 => ?_)
  refine g_iload C dL_passes_505 7 rfl ?_
  refine g_iconst C dL_passes_507 (v := (-1)) (by decide) ?_
  refine g_icmp_ne C dL_passes_508 (tgt := 551) (by decide) (fun c_508 => absurd c_508 (not_not_intro hm1)) (fun c_508 => ?_)
  refine g_iload_n C dL_passes_511 6 rfl ?_
  refine g_iconst C dL_passes_512 (v := 1) (by decide) ?_
  refine g_iadd C dL_passes_513 ?_
  refine g_topi (y := nI (v + 1)) (nI_1 v) ?_
  refine g_aload_n C dL_passes_514 3 rfl ?_
  refine gf_L_opens C tw369 dL_passes_515 ?_
  refine g_icmp_lt C dL_passes_518 (tgt := 551) (by decide) (fun c_518 => absurd c_518 (Int32.not_lt.mpr hop)) (fun c_518 => ?_)
  refine g_iload_n C dL_passes_521 6 rfl ?_
  refine g_iconst C dL_passes_522 (v := 1) (by decide) ?_
  refine g_iadd C dL_passes_523 ?_
  refine g_topi (y := nI (v + 1)) (nI_1 v) ?_
  refine g_aload_n C dL_passes_524 3 rfl ?_
  refine gf_L_shuts C tw370 dL_passes_525 ?_
  refine g_icmp_gt C dL_passes_528 (tgt := 551) (by decide) (fun c_528 => absurd c_528 (Int32.not_lt.mpr hs2)) (fun c_528 => ?_)
  refine g_goto C dL_passes_531 (tgt := 547) (by decide) ?_
  refine g_iconst C dL_passes_547 (v := 1) (by decide) ?_
  refine g_goto C dL_passes_548 (tgt := 552) (by decide) ?_
  refine g_zretW C hr (by decide) hQ (by omega) (by omega) dL_passes_552 ?_
  exact ⟨rfl, I, (by rw [hb]; decide)⟩

set_option maxHeartbeats 1000000 in
set_option maxRecDepth 100000 in
theorem pt_all {G : MC} (C : Cx G cL_passes yL_passes.cls) (hst : (gl G).stackTraces = false) (hR : gR G = { frames := 17, cells := 13, slots := 32015, locals := 461 }) (hL : gL G = 12) (hr : (gme G).sig.returnType = some .boolean) {e v z5 : Nat} {Z M : XF} {K : KF} (I : IV (gsa G) e (v + 1) z5 Z M K) {X : XF} {ls : List Nat} {ln : Nat} (hln : ln ≤ 2000) (hst0 : stOk (X 118 0)) (h45 : ¬ X 118 0 = 45) (hlen : (ls = [] → (K.2.2.1 0).length = ln) ∧ (¬ ls = [] → ln < (K.2.2.1 0).length)) (hpx : PX (gsa G) v X Z M ls) (hQ : gQ G = MQ (gbe G) (QiW (gD G) (gcy G) (gA G) (gad G) (fun r X1 M1 K1 => r = 1 ∧ IV (gsa G) e (v + 1) z5 X1 M1 K1 ∧ ¬ X1 118 0 = 45)) (gas G) (gs G) 13 32015 (gA G)) : GH G (WX G Z M K) [(0, .ref (gad G 42)), (1, .ref (gsa G 900)), (2, .int (X 118 0)), (3, .int (nI v)), (4, .int (X 106 0)), (5, .int (X 109 0)), (6, .int (nI ln)), (9, .int 1)] 12 32009 219 [] := by
  obtain ⟨p1, p2, p3⟩ := hpx
  rcases hst0 with ha | ha | ha | ha | ha | ha | ha
  · exact absurd ha h45
  · have hic : ¬ md_ic (X 118 0) = 0 := by rw [ha]; decide
    rcases p3 hic with ⟨hb, a2, a3, a4, a5⟩ | ⟨hb, a2⟩ | ⟨hb, a2, a3, a4, a5, a6⟩ | ⟨hb, a2, a3, a4, a5, a6, a7⟩
    · refine g_L (L' := [(0, .ref (gad G 42)), (1, .ref (gsa G 900)), (2, .int 99), (3, .int (nI v)), (4, .int (X 106 0)), (5, .int (X 109 0)), (6, .int (nI ln)), (9, .int 1)]) (by rw [ha]) ?_
      exact pt_99_104 C hst hR hL hr I _ _ _ hln hb (hlen.2 (p1.resolve_left (fun q => absurd (hb.symm.trans (q.2.trans ha)) (by decide))).1) a2 a3 a4 a5 hQ
    · refine g_L (L' := [(0, .ref (gad G 42)), (1, .ref (gsa G 900)), (2, .int 99), (3, .int (nI v)), (4, .int (X 106 0)), (5, .int (X 109 0)), (6, .int (nI ln)), (9, .int 1)]) (by rw [ha]) ?_
      exact pt_99_115 C hst hR hL hr I _ _ _ hln hb (hlen.2 (p1.resolve_left (fun q => absurd (hb.symm.trans (q.2.trans ha)) (by decide))).1) a2 hQ
    · refine g_L (L' := [(0, .ref (gad G 42)), (1, .ref (gsa G 900)), (2, .int 99), (3, .int (nI v)), (4, .int (X 106 0)), (5, .int (X 109 0)), (6, .int (nI ln)), (9, .int 1)]) (by rw [ha]) ?_
      exact pt_99_99 C hst hR hL hr I _ _ _ hln hb (hlen.1 (p1.resolve_right (fun q => q.2 (by rw [hb, ha]))).1) a2 a3 a4 a5 a6 hQ
    · refine g_L (L' := [(0, .ref (gad G 42)), (1, .ref (gsa G 900)), (2, .int 99), (3, .int (nI v)), (4, .int (X 106 0)), (5, .int (X 109 0)), (6, .int (nI ln)), (9, .int 1)]) (by rw [ha]) ?_
      exact pt_99_102 C hst hR hL hr I _ _ _ hln hb (hlen.2 (p1.resolve_left (fun q => absurd (hb.symm.trans (q.2.trans ha)) (by decide))).1) a2 a3 a4 (by have q := a7; rw [a5]; rw [show (-1 : Int32) + 1 = 0 from rfl, Int32.sub_zero]; exact q) a5 a6 a7 hQ
  · have hic : ¬ md_ic (X 118 0) = 0 := by rw [ha]; decide
    rcases p3 hic with ⟨hb, a2, a3, a4, a5⟩ | ⟨hb, a2⟩ | ⟨hb, a2, a3, a4, a5, a6⟩ | ⟨hb, a2, a3, a4, a5, a6, a7⟩
    · refine g_L (L' := [(0, .ref (gad G 42)), (1, .ref (gsa G 900)), (2, .int 104), (3, .int (nI v)), (4, .int (X 106 0)), (5, .int (X 109 0)), (6, .int (nI ln)), (9, .int 1)]) (by rw [ha]) ?_
      exact pt_104_104 C hst hR hL hr I _ _ _ hln hb (hlen.1 (p1.resolve_right (fun q => q.2 (by rw [hb, ha]))).1) a2 a3 a4 a5 hQ
    · refine g_L (L' := [(0, .ref (gad G 42)), (1, .ref (gsa G 900)), (2, .int 104), (3, .int (nI v)), (4, .int (X 106 0)), (5, .int (X 109 0)), (6, .int (nI ln)), (9, .int 1)]) (by rw [ha]) ?_
      exact pt_104_115 C hst hR hL hr I _ _ _ hln hb (hlen.2 (p1.resolve_left (fun q => absurd (hb.symm.trans (q.2.trans ha)) (by decide))).1) a2 hQ
    · refine g_L (L' := [(0, .ref (gad G 42)), (1, .ref (gsa G 900)), (2, .int 104), (3, .int (nI v)), (4, .int (X 106 0)), (5, .int (X 109 0)), (6, .int (nI ln)), (9, .int 1)]) (by rw [ha]) ?_
      exact pt_104_99 C hst hR hL hr I _ _ _ hln hb (hlen.2 (p1.resolve_left (fun q => absurd (hb.symm.trans (q.2.trans ha)) (by decide))).1) a2 a3 a4 a5 a6 hQ
    · refine g_L (L' := [(0, .ref (gad G 42)), (1, .ref (gsa G 900)), (2, .int 104), (3, .int (nI v)), (4, .int (X 106 0)), (5, .int (X 109 0)), (6, .int (nI ln)), (9, .int 1)]) (by rw [ha]) ?_
      exact pt_104_102 C hst hR hL hr I _ _ _ hln hb (hlen.2 (p1.resolve_left (fun q => absurd (hb.symm.trans (q.2.trans ha)) (by decide))).1) a2 a3 a4 (by have q := a7; rw [a5]; rw [show (-1 : Int32) + 1 = 0 from rfl, Int32.sub_zero]; exact q) a5 a6 a7 hQ
  · have hic : md_ic (X 118 0) = 0 := by rw [ha]; decide
    rcases p2 hic with q | ⟨q, -⟩
    · have hb : Z 118 0 = 115 := q.trans ha
      refine g_L (L' := [(0, .ref (gad G 42)), (1, .ref (gsa G 900)), (2, .int 115), (3, .int (nI v)), (4, .int (X 106 0)), (5, .int (X 109 0)), (6, .int (nI ln)), (9, .int 1)]) (by rw [ha]) ?_
      exact pt_115_115 C hst hR hL hr I _ _ _ hln hb (hlen.1 (p1.resolve_right (fun q => q.2 (by rw [hb, ha]))).1)  hQ
    · exact absurd (ha.symm.trans q) (by decide)
  · have hic : md_ic (X 118 0) = 0 := by rw [ha]; decide
    rcases p2 hic with q | ⟨-, hb | hb⟩
    · have hb : Z 118 0 = 102 := q.trans ha
      refine g_L (L' := [(0, .ref (gad G 42)), (1, .ref (gsa G 900)), (2, .int 102), (3, .int (nI v)), (4, .int (X 106 0)), (5, .int (X 109 0)), (6, .int (nI ln)), (9, .int 1)]) (by rw [ha]) ?_
      exact pt_102_102 C hst hR hL hr I _ _ _ hln hb (hlen.1 (p1.resolve_right (fun q => q.2 (by rw [hb, ha]))).1)  hQ
    · refine g_L (L' := [(0, .ref (gad G 42)), (1, .ref (gsa G 900)), (2, .int 102), (3, .int (nI v)), (4, .int (X 106 0)), (5, .int (X 109 0)), (6, .int (nI ln)), (9, .int 1)]) (by rw [ha]) ?_
      exact pt_102_120 C hst hR hL hr I _ _ _ hln hb (hlen.2 (p1.resolve_left (fun q => absurd (hb.symm.trans (q.2.trans ha)) (by decide))).1)  hQ
    · refine g_L (L' := [(0, .ref (gad G 42)), (1, .ref (gsa G 900)), (2, .int 102), (3, .int (nI v)), (4, .int (X 106 0)), (5, .int (X 109 0)), (6, .int (nI ln)), (9, .int 1)]) (by rw [ha]) ?_
      exact pt_102_111 C hst hR hL hr I _ _ _ hln hb (hlen.2 (p1.resolve_left (fun q => absurd (hb.symm.trans (q.2.trans ha)) (by decide))).1)  hQ
  · have hic : md_ic (X 118 0) = 0 := by rw [ha]; decide
    rcases p2 hic with q | ⟨q, -⟩
    · have hb : Z 118 0 = 120 := q.trans ha
      refine g_L (L' := [(0, .ref (gad G 42)), (1, .ref (gsa G 900)), (2, .int 120), (3, .int (nI v)), (4, .int (X 106 0)), (5, .int (X 109 0)), (6, .int (nI ln)), (9, .int 1)]) (by rw [ha]) ?_
      exact pt_120_120 C hst hR hL hr I _ _ _ hln hb (hlen.1 (p1.resolve_right (fun q => q.2 (by rw [hb, ha]))).1)  hQ
    · exact absurd (ha.symm.trans q) (by decide)
  · have hic : md_ic (X 118 0) = 0 := by rw [ha]; decide
    rcases p2 hic with q | ⟨q, -⟩
    · have hb : Z 118 0 = 111 := q.trans ha
      refine g_L (L' := [(0, .ref (gad G 42)), (1, .ref (gsa G 900)), (2, .int 111), (3, .int (nI v)), (4, .int (X 106 0)), (5, .int (X 109 0)), (6, .int (nI ln)), (9, .int 1)]) (by rw [ha]) ?_
      exact pt_111_111 C hst hR hL hr I _ _ _ hln hb (hlen.1 (p1.resolve_right (fun q => q.2 (by rw [hb, ha]))).1)  hQ
    · exact absurd (ha.symm.trans q) (by decide)

theorem ls_len1 (v : Nat) : ∀ (ls : List Nat) (s : TS), s.1.length ≤ (lsT s v ls).1.length ∧ (¬ ls = [] → s.1.length < (lsT s v ls).1.length)
  | [], _ => ⟨Nat.le_refl _, fun q => absurd rfl q⟩
  | c :: cs, s => by
    have ih := (ls_len1 v cs (lgT s v c)).1
    have e : s.1.length < (lgT s v c).1.length := by
      show s.1.length < (s.1 ++ decL v ++ [c] ++ [59]).length
      rw [List.length_append, List.length_append, List.length_append]
      show _ < _ + _ + 1 + 1
      omega
    show s.1.length ≤ (lsT (lgT s v c) v cs).1.length ∧ (_ → s.1.length < (lsT (lgT s v c) v cs).1.length)
    exact ⟨by omega, fun _ => by omega⟩
theorem ls_grow (K : KF) (v : Nat) (ls : List Nat) (h : ¬ ls = []) : (K.2.2.1 0).length < ((kLs K 0 v ls).2.2.1 0).length := by
  have e : (kLs K 0 v ls).2.2.1 0 = (lsT (sd 0 K) v ls).1 := congrArg Prod.fst (sd_ls0 v ls K)
  rw [e]
  exact (ls_len1 v ls (sd 0 K)).2 h
set_option maxHeartbeats 2000000 in
set_option maxRecDepth 100000 in
/-- passes.passes -/
theorem c_L_passes (l : Launch) (D : va_G) (cy : Nat → ClassId) (A : Nat → Prop) (ad sad : Nat → Nat) (X M : XF) (K : KF) (e v z5 : Nat) (I : IV sad e v z5 X M K) (h45 : ¬ X 118 0 = 45) (hv69 : v ≤ 69) (hst : l.stackTraces = false) : Met l yL_passes (wsA yL_passes cL_passes 12 (some .boolean)) ({ frames := 17, cells := 13, slots := 32015, locals := 461 }) (PcW D cy A ad sad X M K [.ref (ad 42), .ref (sad 900)]) (QiW D cy A ad (fun r X1 M1 K1 => r = 1 ∧ IV (sad) e (v + 1) z5 X1 M1 K1 ∧ ¬ X1 118 0 = 45)) 13 32015 A := by
  refine met_ofW [(0, .ref (ad 42)), (1, .ref (sad 900))] (by decide +kernel) (Nat.le_of_ble_eq_true rfl) rfl ?_
  intro G C hl hR hL hD hcy hA had hsa hr hQ
  subst hD hcy hA had hsa hl
  have hrc : (gR G).cells = 13 := by rw [hR]
  have hrs : (gR G).slots = 32015 := by rw [hR]
  have hv := I.lv
  have hlen := I.len
  have hnum := I.num
  have hE := I.tx.2.2.1
  have hb := beg_ok h45
  obtain ⟨I2, ht, hh, hpx, hl4⟩ := I.pass hv69
  have hls := I.ls (cs := (sc_A v 6 z5 5 X).2) hl4
  have ht2 : ∀ k : Nat, k < 3 → (sc_A v 6 z5 5 X).1 5 k = tr_f M (fr (X 5) 3) k := fun k hk => (ht k hk).trans (by unfold tr_f; rw [fr_at hk])
  have hgrow := ls_grow K v (sc_A v 6 z5 5 X).2
  refine g_aload_n C dL_passes_0 0 rfl ?_
  refine gf_L_o C tw363 dL_passes_1 ?_
  refine g_callViW C dL_passes_4 (c_X10_state _ _ _ _ _ _ _ _ _ I.ch118) tw1141 tw1142 tw1143 tw1 tw1144 (rv_X10 C) rfl ⟨by decide +kernel, by decide +kernel, rfl⟩ ⟨rfl, rfl⟩ (by rw [hR]; exact ⟨Nat.le_of_ble_eq_true rfl, Nat.le_of_ble_eq_true rfl⟩) (Nat.le_of_ble_eq_true rfl) (by omega) (fun r_1 X1 M1 K1 h_2 => ?_)
  obtain ⟨rfl, hX1, hM1, hK1⟩ := h_2
  subst X1 M1 K1
  refine g_istore_n C dL_passes_7 (L' := [(2, .int (X 118 0)), (0, .ref (gad G 42)), (1, .ref (gsa G 900))]) rfl (by rw [hL]; decide) ?_
  refine g_aload_n C dL_passes_8 1 rfl ?_
  refine gf_L_o C tw363 dL_passes_9 ?_
  refine g_callViW C dL_passes_12 (c_X10_second _ _ _ _ _ _ _ _ _ ) tw1137 tw1138 tw1139 tw1 tw1140 (rv_X10 C) rfl ⟨by decide +kernel, by decide +kernel, rfl⟩ ⟨rfl, rfl⟩ (by rw [hR]; exact ⟨Nat.le_of_ble_eq_true rfl, Nat.le_of_ble_eq_true rfl⟩) (Nat.le_of_ble_eq_true rfl) (by omega) (fun r_3 X1 M1 K1 h_4 => ?_)
  obtain ⟨rfl, hX1, hM1, hK1⟩ := h_4
  subst X1 M1 K1
  refine g_topi (y := nI v) I.x1 ?_
  refine g_istore_n C dL_passes_15 (L' := [(3, .int (nI v)), (2, .int (X 118 0)), (0, .ref (gad G 42)), (1, .ref (gsa G 900))]) rfl (by rw [hL]; decide) ?_
  refine g_aload_n C dL_passes_16 2 rfl ?_
  refine gf_L_o C tw363 dL_passes_17 ?_
  refine g_bipush C dL_passes_20 (v := 25) (by decide) ?_
  refine g_iconst C dL_passes_22 (v := 0) (by decide) ?_
  refine g_iconst C dL_passes_23 (v := 0) (by decide) ?_
  refine g_callSiW C dL_passes_24 (c_ask_25 _ _ _ _ _ _ _ _ _ hb _ _) tw1112 tw1113 tw0 tw1114 rfl ⟨by decide +kernel, by decide +kernel, rfl⟩ ⟨rfl, rfl⟩ (by rw [hR]; exact ⟨Nat.le_of_ble_eq_true rfl, Nat.le_of_ble_eq_true rfl⟩) (Nat.le_of_ble_eq_true rfl) (by omega) (fun r_5 X1 M1 K1 h_6 => ?_)
  obtain ⟨rfl, hX1, hM1, hK1⟩ := h_6
  subst X1 M1 K1
  refine g_istore C dL_passes_27 (L' := [(4, .int (X 106 0)), (3, .int (nI v)), (2, .int (X 118 0)), (0, .ref (gad G 42)), (1, .ref (gsa G 900))]) rfl (by rw [hL]; decide) ?_
  refine g_aload_n C dL_passes_29 3 rfl ?_
  refine gf_L_o C tw363 dL_passes_30 ?_
  refine g_bipush C dL_passes_33 (v := 26) (by decide) ?_
  refine g_iconst C dL_passes_35 (v := 0) (by decide) ?_
  refine g_iconst C dL_passes_36 (v := 0) (by decide) ?_
  refine g_callSiW C dL_passes_37 (c_ask_26 _ _ _ _ _ _ _ _ _ hb _ _) tw1112 tw1113 tw0 tw1114 rfl ⟨by decide +kernel, by decide +kernel, rfl⟩ ⟨rfl, rfl⟩ (by rw [hR]; exact ⟨Nat.le_of_ble_eq_true rfl, Nat.le_of_ble_eq_true rfl⟩) (Nat.le_of_ble_eq_true rfl) (by omega) (fun r_7 X1 M1 K1 h_8 => ?_)
  obtain ⟨rfl, hX1, hM1, hK1⟩ := h_8
  subst X1 M1 K1
  refine g_istore C dL_passes_40 (L' := [(5, .int (X 109 0)), (4, .int (X 106 0)), (3, .int (nI v)), (2, .int (X 118 0)), (0, .ref (gad G 42)), (1, .ref (gsa G 900))]) rfl (by rw [hL]; decide) ?_
  refine g_aload_n C dL_passes_42 4 rfl ?_
  refine gf_L_o C tw363 dL_passes_43 ?_
  refine g_callViW C dL_passes_46 (c_X10_logLength _ _ _ _ _ _ _ _ _ (by omega) (by omega)) tw1165 tw1166 tw1167 tw1 tw1168 (rv_X10 C) rfl ⟨by decide +kernel, by decide +kernel, rfl⟩ ⟨rfl, rfl⟩ (by rw [hR]; exact ⟨Nat.le_of_ble_eq_true rfl, Nat.le_of_ble_eq_true rfl⟩) (Nat.le_of_ble_eq_true rfl) (by omega) (fun r_9 X1 M1 K1 h_10 => ?_)
  obtain ⟨rfl, hX1, hM1, hK1⟩ := h_10
  subst X1 M1 K1
  refine g_istore C dL_passes_49 (L' := [(6, .int (nI (K.2.2.1 0).length)), (5, .int (X 109 0)), (4, .int (X 106 0)), (3, .int (nI v)), (2, .int (X 118 0)), (0, .ref (gad G 42)), (1, .ref (gsa G 900))]) rfl (by rw [hL]; decide) ?_
  refine g_iconst C dL_passes_51 (v := 3) (by decide) ?_
  refine g_topi (y := nI 3) rfl ?_
  refine e_newi C (Nat.le_of_ble_eq_true rfl) (by omega) dL_passes_52 [] hE (fun q1 => [(q1, .inl (gcy G 0, 3, .inl (fun _ => 0)))]) (fun _ => rfl) (fun q1 => ?_)
  refine g_astore C dL_passes_54 (L' := [(7, .ref q1), (6, .int (nI (K.2.2.1 0).length)), (5, .int (X 109 0)), (4, .int (X 106 0)), (3, .int (nI v)), (2, .int (X 118 0)), (0, .ref (gad G 42)), (1, .ref (gsa G 900))]) rfl (by rw [hL]; decide) ?_
  refine g_bipush C dL_passes_56 (v := 6) (by decide) ?_
  refine g_topi (y := nI 6) rfl ?_
  refine e_newi C (Nat.le_of_ble_eq_true rfl) (by omega) dL_passes_58 [(q1, .inl (gcy G 0, 3, .inl (fun _ => 0)))] rfl (fun q2 => [(q1, .inl (gcy G 0, 3, .inl (fun _ => 0))), (q2, .inl (gcy G 0, 6, .inl (fun _ => 0)))]) (fun _ => rfl) (fun q2 => ?_)
  refine g_astore C dL_passes_60 (L' := [(8, .ref q2), (7, .ref q1), (6, .int (nI (K.2.2.1 0).length)), (5, .int (X 109 0)), (4, .int (X 106 0)), (3, .int (nI v)), (2, .int (X 118 0)), (0, .ref (gad G 42)), (1, .ref (gsa G 900))]) rfl (by rw [hL]; decide) ?_
  refine g_iconst C dL_passes_62 (v := 0) (by decide) ?_
  refine g_istore C dL_passes_63 (L' := [(9, .int 0), (8, .ref q2), (7, .ref q1), (6, .int (nI (K.2.2.1 0).length)), (5, .int (X 109 0)), (4, .int (X 106 0)), (3, .int (nI v)), (2, .int (X 118 0)), (0, .ref (gad G 42)), (1, .ref (gsa G 900))]) rfl (by rw [hL]; decide) ?_
  have lp65 : ∀ (n i : Nat) (hi : i + n = 3), GH G (WX G X M (kE K [(q1, .inl (gcy G 0, 3, .inl (fr (X 5) i))), (q2, .inl (gcy G 0, 6, .inl (fun _ => 0)))])) [(0, .ref (gad G 42)), (1, .ref (gsa G 900)), (2, .int (X 118 0)), (3, .int (nI v)), (4, .int (X 106 0)), (5, .int (X 109 0)), (6, .int (nI (K.2.2.1 0).length)), (7, .ref q1), (8, .ref q2), (9, .int (nI i))] (0 + 1 + 1) (0 + 3 + 6) 65 [] := by
    intro n
    induction n with
    | zero =>
      intro i hi
      obtain rfl : i = 3 := by omega
      refine g_iload C dL_passes_65 9 rfl ?_
      refine g_iconst C dL_passes_67 (v := 3) (by decide) ?_
      refine g_icmp_ge C dL_passes_68 (tgt := 94) (by decide) (fun c_68 => ?_) (fun c_68 => absurd (nI_le (a := 3) (b := 3) (Nat.le_refl _) (by omega)) c_68)
      refine g_iconst C dL_passes_94 (v := 0) (by decide) ?_
      refine g_istore C dL_passes_95 (L' := [(9, .int 0), (0, .ref (gad G 42)), (1, .ref (gsa G 900)), (2, .int (X 118 0)), (3, .int (nI v)), (4, .int (X 106 0)), (5, .int (X 109 0)), (6, .int (nI (K.2.2.1 0).length)), (7, .ref q1), (8, .ref q2)]) rfl (by rw [hL]; decide) ?_
      have lp97 : ∀ (n i : Nat) (hi : i + n = 6), GH G (WX G X M (kE K [(q1, .inl (gcy G 0, 3, .inl (fr (X 5) 3))), (q2, .inl (gcy G 0, 6, .inl (fr (X 31) i)))])) [(0, .ref (gad G 42)), (1, .ref (gsa G 900)), (2, .int (X 118 0)), (3, .int (nI v)), (4, .int (X 106 0)), (5, .int (X 109 0)), (6, .int (nI (K.2.2.1 0).length)), (7, .ref q1), (8, .ref q2), (9, .int (nI i))] (0 + 1 + 1) (0 + 3 + 6) 97 [] := by
        intro n
        induction n with
        | zero =>
          intro i hi
          obtain rfl : i = 6 := by omega
          refine g_iload C dL_passes_97 9 rfl ?_
          refine g_bipush C dL_passes_99 (v := 6) (by decide) ?_
          refine g_icmp_ge C dL_passes_101 (tgt := 127) (by decide) (fun c_101 => ?_) (fun c_101 => absurd (nI_le (a := 6) (b := 6) (Nat.le_refl _) (by omega)) c_101)
          refine g_aload_n C dL_passes_127 0 rfl ?_
          refine gf_L_o C tw363 dL_passes_128 ?_
          refine g_bipush C dL_passes_131 (v := 17) (by decide) ?_
          refine g_iconst C dL_passes_133 (v := 1) (by decide) ?_
          refine g_iconst C dL_passes_134 (v := 0) (by decide) ?_
          have hm0 : (ps_K 6 z5 5 v X (kE K [(q1, .inl (gcy G 0, 3, .inl (fr (X 5) 3))), (q2, .inl (gcy G 0, 6, .inl (fr (X 31) 6)))]) 1).2.1 0 = (kLs K 0 v (sc_A v 6 z5 5 X).2).2.1 0 := by rw [kE_ps]; rfl
          have hm4 : (ps_K 6 z5 5 v X (kE K [(q1, .inl (gcy G 0, 3, .inl (fr (X 5) 3))), (q2, .inl (gcy G 0, 6, .inl (fr (X 31) 6)))]) 1).2.1 4 = (kLs K 0 v (sc_A v 6 z5 5 X).2).2.1 4 := by rw [kE_ps]; rfl
          have hm6 : (ps_K 6 z5 5 v X (kE K [(q1, .inl (gcy G 0, 3, .inl (fr (X 5) 3))), (q2, .inl (gcy G 0, 6, .inl (fr (X 31) 6)))]) 1).2.1 6 = (kLs K 0 v (sc_A v 6 z5 5 X).2).2.1 6 := by rw [kE_ps]; rfl
          have hk4 : (kE K [(q1, .inl (gcy G 0, 3, .inl (fr (X 5) 3))), (q2, .inl (gcy G 0, 6, .inl (fr (X 31) 6)))]).2.1 4 = K.2.1 4 := rfl
          have hk6 : (kE K [(q1, .inl (gcy G 0, 3, .inl (fr (X 5) 3))), (q2, .inl (gcy G 0, 6, .inl (fr (X 31) 6)))]).2.1 6 = K.2.1 6 := rfl
          refine g_callSiW C dL_passes_135 (c_ask_17 _ _ _ _ _ _ _ _ (kE K [(q1, .inl (gcy G 0, 3, .inl (fr (X 5) 3))), (q2, .inl (gcy G 0, 6, .inl (fr (X 31) 6)))]) v 6 z5 5 I.okS (by decide) I.l5 (by decide) (by omega) hnum.1 (by rw [I.x1]; exact pass_ok hv) (by rw [hm0]; omega) _) tw1112 tw1113 tw0 tw1114 rfl ⟨by decide +kernel, by decide +kernel, rfl⟩ ⟨rfl, rfl⟩ (by rw [hR]; exact ⟨Nat.le_of_ble_eq_true rfl, Nat.le_of_ble_eq_true rfl⟩) (Nat.le_of_ble_eq_true rfl) (by omega) (fun r_11 X1 M1 K1 h_12 => ?_)
          obtain ⟨rfl, hX1, hM1, hK1⟩ := h_12
          subst X1 M1 K1
          refine g_wide (k' := 12) (n' := 32009) (by omega) (by omega) ?_
          refine g_X (X' := (sc_A v 6 z5 5 X).1) rfl ?_
          refine g_K (K' := kE (kLs K 0 v (sc_A v 6 z5 5 X).2) [(q1, .inl (gcy G 0, 3, .inl (fr (X 5) 3))), (q2, .inl (gcy G 0, 6, .inl (fr (X 31) 6)))]) (by rw [kE_ps]; rfl) ?_
          generalize (sc_A v 6 z5 5 X).1 = Z at *
          generalize (sc_A v 6 z5 5 X).2 = ls at *
          refine g_iload_n C dL_passes_138 3 rfl ?_
          refine g_iconst C dL_passes_139 (v := 1) (by decide) ?_
          refine g_iadd C dL_passes_140 ?_
          refine g_topi (y := nI (v + 1)) (nI_1 v) ?_
          refine g_icmp_ne C dL_passes_141 (tgt := 157) (by decide) (fun c_141 => absurd c_141 (not_not_intro rfl)) (fun c_141 => ?_)
          refine g_aload_n C dL_passes_144 0 rfl ?_
          refine g_aload C dL_passes_145 7 rfl ?_
          refine g_callViW C dL_passes_147 (c_L_areTanksRight _ _ _ _ _ _ _ _ _ q1 (fr (X 5) 3) rfl ht2) tw1169 tw1171 tp20 tw0 tw1172 (rv_L C) rfl ⟨by decide +kernel, by decide +kernel, rfl⟩ ⟨rfl, rfl⟩ (by rw [hR]; exact ⟨Nat.le_of_ble_eq_true rfl, Nat.le_of_ble_eq_true rfl⟩) (Nat.le_of_ble_eq_true rfl) (by omega) (fun r_13 X1 M1 K1 h_14 => ?_)
          obtain ⟨rfl, hX1, hM1, hK1⟩ := h_14
          subst X1 M1 K1
          refine g_if_eq C dL_passes_150 (tgt := 157) (by decide) (fun c_150 => absurd c_150 (by decide)) (fun c_150 => ?_)
          refine g_iconst C dL_passes_153 (v := 1) (by decide) ?_
          refine g_goto C dL_passes_154 (tgt := 158) (by decide) ?_
          refine g_istore C dL_passes_158 (L' := [(9, .int 1), (0, .ref (gad G 42)), (1, .ref (gsa G 900)), (2, .int (X 118 0)), (3, .int (nI v)), (4, .int (X 106 0)), (5, .int (X 109 0)), (6, .int (nI (K.2.2.1 0).length)), (7, .ref q1), (8, .ref q2)]) rfl (by rw [hL]; decide) ?_
          refine g_iconst C dL_passes_160 (v := 0) (by decide) ?_
          refine g_istore C dL_passes_161 (L' := [(10, .int 0), (9, .int 1), (0, .ref (gad G 42)), (1, .ref (gsa G 900)), (2, .int (X 118 0)), (3, .int (nI v)), (4, .int (X 106 0)), (5, .int (X 109 0)), (6, .int (nI (K.2.2.1 0).length)), (7, .ref q1), (8, .ref q2)]) rfl (by rw [hL]; decide) ?_
          have lp163 : ∀ (n i : Nat) (hi : i + n = 6), GH G (WX G Z M (kE (kLs K 0 v ls) [(q1, .inl (gcy G 0, 3, .inl (fr (X 5) 3))), (q2, .inl (gcy G 0, 6, .inl (fr (X 31) 6)))])) [(0, .ref (gad G 42)), (1, .ref (gsa G 900)), (2, .int (X 118 0)), (3, .int (nI v)), (4, .int (X 106 0)), (5, .int (X 109 0)), (6, .int (nI (K.2.2.1 0).length)), (7, .ref q1), (8, .ref q2), (9, .int 1), (10, .int (nI i))] 12 32009 163 [] := by
            intro n
            induction n with
            | zero =>
              intro i hi
              obtain rfl : i = 6 := by omega
              refine g_iload C dL_passes_163 10 rfl ?_
              refine g_bipush C dL_passes_165 (v := 6) (by decide) ?_
              refine g_icmp_ge C dL_passes_167 (tgt := 219) (by decide) (fun c_167 => ?_) (fun c_167 => absurd (nI_le (a := 6) (b := 6) (Nat.le_refl _) (by omega)) c_167)
              refine g_drop (E := []) (E2 := [(q1, .inl (gcy G 0, 3, .inl (fr (X 5) 3))), (q2, .inl (gcy G 0, 6, .inl (fr (X 31) 6)))]) rfl ?_
              refine g_K (K' := kLs K 0 v ls) (by rw [← ls_E v ls K] at hE; rw [← hE]; rfl) ?_
              exact g_sub [0, 1, 2, 3, 4, 5, 6, 9] rfl (pt_all C hst hR hL hr I2 (by omega) I.st h45 ⟨fun q => by rw [q]; rfl, fun q => hgrow q⟩ hpx hQ)
            | succ n ih =>
              intro i hi
              refine g_iload C dL_passes_163 10 rfl ?_
              refine g_bipush C dL_passes_165 (v := 6) (by decide) ?_
              refine g_icmp_ge C dL_passes_167 (tgt := 219) (by decide) (fun c_167 => absurd c_167 (nI_ge (a := i) (b := 6) (by omega) (by omega))) (fun c_167 => ?_)
              refine g_aload_n C dL_passes_170 0 rfl ?_
              refine gf_L_o C tw363 dL_passes_171 ?_
              refine g_bipush C dL_passes_174 (v := 23) (by decide) ?_
              refine g_iload C dL_passes_176 10 rfl ?_
              refine g_iconst C dL_passes_178 (v := 0) (by decide) ?_
              refine g_callSiW C dL_passes_179 (c_ask_23 _ _ _ _ _ _ _ _ _ i 6 I2.x6 (by decide) (by omega) _) tw1112 tw1113 tw0 tw1114 rfl ⟨by decide +kernel, by decide +kernel, rfl⟩ ⟨rfl, rfl⟩ (by rw [hR]; exact ⟨Nat.le_of_ble_eq_true rfl, Nat.le_of_ble_eq_true rfl⟩) (Nat.le_of_ble_eq_true rfl) (by omega) (fun r_15 X1 M1 K1 h_16 => ?_)
              obtain ⟨rfl, hX1, hM1, hK1⟩ := h_16
              subst X1 M1 K1
              refine g_istore C dL_passes_182 (L' := [(11, .int (Z 31 i)), (0, .ref (gad G 42)), (1, .ref (gsa G 900)), (2, .int (X 118 0)), (3, .int (nI v)), (4, .int (X 106 0)), (5, .int (X 109 0)), (6, .int (nI (K.2.2.1 0).length)), (7, .ref q1), (8, .ref q2), (9, .int 1), (10, .int (nI i))]) rfl (by rw [hL]; decide) ?_
              refine g_iload C dL_passes_184 10 rfl ?_
              refine g_if_eq C dL_passes_186 (tgt := 210) (by decide) (fun c_186 => absurd c_186 (by decide)) (fun c_186 => ?_)
              refine g_iload C dL_passes_189 0 rfl ?_
              refine g_if_eq C dL_passes_191 (tgt := 206) (by decide) (fun c_191 => ?_) (fun c_191 => ?_)
              · try simp only [sa_ap, si_ap, reduceIte, Nat.reduceEqDiff, up_us, lg_cmp_lt, lg_cmp_gt, lg_cmp_le, lg_cmp_ge] at c_191
                refine g_iconst C dL_passes_206 (v := 1) (by decide) ?_
                refine g_goto C dL_passes_207 (tgt := 211) (by decide) ?_
                refine g_istore C dL_passes_211 (L' := [(9, .int 1), (11, .int (Z 31 i)), (0, .ref (gad G 42)), (1, .ref (gsa G 900)), (2, .int (X 118 0)), (3, .int (nI v)), (4, .int (X 106 0)), (5, .int (X 109 0)), (6, .int (nI (K.2.2.1 0).length)), (7, .ref q1), (8, .ref q2), (10, .int (nI i))]) rfl (by rw [hL]; decide) ?_
                refine g_iinc C dL_passes_213 11 rfl (v := nI (i + 1)) (nI_1 _) (L' := [(10, .int (nI (i + 1))), (9, .int 1), (11, .int (Z 31 i)), (0, .ref (gad G 42)), (1, .ref (gsa G 900)), (2, .int (X 118 0)), (3, .int (nI v)), (4, .int (X 106 0)), (5, .int (X 109 0)), (6, .int (nI (K.2.2.1 0).length)), (7, .ref q1), (8, .ref q2)]) rfl (by rw [hL]; decide) ?_
                refine g_goto C dL_passes_216 (tgt := 163) (by decide) ?_
                exact g_sub [3, 4, 5, 6, 7, 8, 9, 10, 11, 1, 0] rfl (g_X rfl (ih (i + 1) (by omega)))
              · try simp only [sa_ap, si_ap, reduceIte, Nat.reduceEqDiff, up_us, lg_cmp_lt, lg_cmp_gt, lg_cmp_le, lg_cmp_ge] at c_191
                refine g_iload C dL_passes_194 0 rfl ?_
                refine g_aload C dL_passes_196 9 rfl ?_
                refine g_iload C dL_passes_198 11 rfl ?_
                refine e_iald C (p := 1) rfl (by omega) (by decide) dL_passes_200 ?_
                refine g_iconst C dL_passes_201 (v := 1) (by decide) ?_
                refine g_iadd C dL_passes_202 ?_
                refine g_icmp_ne C dL_passes_203 (tgt := 210) (by decide) (fun c_203 => absurd c_203 (not_not_intro (((hh i (by omega)).resolve_left c_191).trans (by rw [fr_at (by omega)])))) (fun c_203 => ?_)
                refine g_iconst C dL_passes_206 (v := 1) (by decide) ?_
                refine g_goto C dL_passes_207 (tgt := 211) (by decide) ?_
                refine g_istore C dL_passes_211 (L' := [(9, .int 1), (11, .int (Z 31 i)), (0, .ref (gad G 42)), (1, .ref (gsa G 900)), (2, .int (X 118 0)), (3, .int (nI v)), (4, .int (X 106 0)), (5, .int (X 109 0)), (6, .int (nI (K.2.2.1 0).length)), (7, .ref q1), (8, .ref q2), (10, .int (nI i))]) rfl (by rw [hL]; decide) ?_
                refine g_iinc C dL_passes_213 11 rfl (v := nI (i + 1)) (nI_1 _) (L' := [(10, .int (nI (i + 1))), (9, .int 1), (11, .int (Z 31 i)), (0, .ref (gad G 42)), (1, .ref (gsa G 900)), (2, .int (X 118 0)), (3, .int (nI v)), (4, .int (X 106 0)), (5, .int (X 109 0)), (6, .int (nI (K.2.2.1 0).length)), (7, .ref q1), (8, .ref q2)]) rfl (by rw [hL]; decide) ?_
                refine g_goto C dL_passes_216 (tgt := 163) (by decide) ?_
                exact g_sub [3, 4, 5, 6, 7, 8, 9, 10, 11, 1, 0] rfl (g_X rfl (ih (i + 1) (by omega)))
          exact g_sub [2, 3, 4, 5, 6, 7, 8, 9, 10, 1, 0] rfl (g_X rfl (lp163 (6) 0 (by omega)))
        | succ n ih =>
          intro i hi
          refine g_iload C dL_passes_97 9 rfl ?_
          refine g_bipush C dL_passes_99 (v := 6) (by decide) ?_
          refine g_icmp_ge C dL_passes_101 (tgt := 127) (by decide) (fun c_101 => absurd c_101 (nI_ge (a := i) (b := 6) (by omega) (by omega))) (fun c_101 => ?_)
          refine g_aload C dL_passes_104 8 rfl ?_
          refine g_iload C dL_passes_106 9 rfl ?_
          refine g_aload_n C dL_passes_108 0 rfl ?_
          refine gf_L_o C tw363 dL_passes_109 ?_
          refine g_bipush C dL_passes_112 (v := 23) (by decide) ?_
          refine g_iload C dL_passes_114 9 rfl ?_
          refine g_iconst C dL_passes_116 (v := 0) (by decide) ?_
          refine g_callSiW C dL_passes_117 (c_ask_23 _ _ _ _ _ _ _ _ _ i 6 I.x6 (by decide) (by omega) _) tw1112 tw1113 tw0 tw1114 rfl ⟨by decide +kernel, by decide +kernel, rfl⟩ ⟨rfl, rfl⟩ (by rw [hR]; exact ⟨Nat.le_of_ble_eq_true rfl, Nat.le_of_ble_eq_true rfl⟩) (Nat.le_of_ble_eq_true rfl) (by omega) (fun r_17 X1 M1 K1 h_18 => ?_)
          obtain ⟨rfl, hX1, hM1, hK1⟩ := h_18
          subst X1 M1 K1
          refine e_iast C (p := 1) rfl (by omega) (by decide) rfl dL_passes_120 ?_
          refine g_iinc C dL_passes_121 9 rfl (v := nI (i + 1)) (nI_1 _) (L' := [(9, .int (nI (i + 1))), (0, .ref (gad G 42)), (1, .ref (gsa G 900)), (2, .int (X 118 0)), (3, .int (nI v)), (4, .int (X 106 0)), (5, .int (X 109 0)), (6, .int (nI (K.2.2.1 0).length)), (7, .ref q1), (8, .ref q2)]) rfl (by rw [hL]; decide) ?_
          refine g_goto C dL_passes_124 (tgt := 97) (by decide) ?_
          exact g_sub [1, 2, 3, 4, 5, 6, 7, 8, 9, 0] rfl (g_K rfl (ih (i + 1) (by omega)))
      exact g_sub [1, 2, 3, 4, 5, 6, 7, 8, 9, 0] rfl (g_K rfl (lp97 (6) 0 (by omega)))
    | succ n ih =>
      intro i hi
      refine g_iload C dL_passes_65 9 rfl ?_
      refine g_iconst C dL_passes_67 (v := 3) (by decide) ?_
      refine g_icmp_ge C dL_passes_68 (tgt := 94) (by decide) (fun c_68 => absurd c_68 (nI_ge (a := i) (b := 3) (by omega) (by omega))) (fun c_68 => ?_)
      refine g_aload C dL_passes_71 7 rfl ?_
      refine g_iload C dL_passes_73 9 rfl ?_
      refine g_aload_n C dL_passes_75 0 rfl ?_
      refine gf_L_o C tw363 dL_passes_76 ?_
      refine g_bipush C dL_passes_79 (v := 20) (by decide) ?_
      refine g_iload C dL_passes_81 9 rfl ?_
      refine g_iconst C dL_passes_83 (v := 0) (by decide) ?_
      refine g_callSiW C dL_passes_84 (c_ask_20 _ _ _ _ _ _ _ _ _ i (by omega) _) tw1112 tw1113 tw0 tw1114 rfl ⟨by decide +kernel, by decide +kernel, rfl⟩ ⟨rfl, rfl⟩ (by rw [hR]; exact ⟨Nat.le_of_ble_eq_true rfl, Nat.le_of_ble_eq_true rfl⟩) (Nat.le_of_ble_eq_true rfl) (by omega) (fun r_19 X1 M1 K1 h_20 => ?_)
      obtain ⟨rfl, hX1, hM1, hK1⟩ := h_20
      subst X1 M1 K1
      refine e_iast C (p := 0) rfl (by omega) (by decide) rfl dL_passes_87 ?_
      refine g_iinc C dL_passes_88 9 rfl (v := nI (i + 1)) (nI_1 _) (L' := [(9, .int (nI (i + 1))), (0, .ref (gad G 42)), (1, .ref (gsa G 900)), (2, .int (X 118 0)), (3, .int (nI v)), (4, .int (X 106 0)), (5, .int (X 109 0)), (6, .int (nI (K.2.2.1 0).length)), (7, .ref q1), (8, .ref q2)]) rfl (by rw [hL]; decide) ?_
      refine g_goto C dL_passes_91 (tgt := 65) (by decide) ?_
      exact g_sub [1, 2, 3, 4, 5, 6, 7, 8, 9, 0] rfl (g_K rfl (ih (i + 1) (by omega)))
  exact g_sub [8, 9, 7, 6, 5, 4, 3, 2, 1, 0] rfl (g_K rfl (lp65 (3) 0 (by omega)))

