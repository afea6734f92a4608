/-! the class -/
def badL : List Cond := castL.map (fun q => Cond.castable q.1 q.2) ++ declL.map Cond.declares ++ nestL.map (fun q => Cond.methodLinkNest q.1 q.2.1 q.2.2.1 q.2.2.2)
theorem Cx.bad {G : MC} {cc : ByteArray} {own : String} (C : Cx G cc own) : ∀ w ∈ badL, w.before (gas G) (gs G) = true := fun w hw => by
  rcases List.mem_append.mp hw with hw | hw
  · rcases List.mem_append.mp hw with hw | hw
    · obtain ⟨q, hq, rfl⟩ := List.mem_map.mp hw
      exact va_Nw.use rfl (C.gl.2.2.2.2.1 q hq)
    · obtain ⟨q, hq, rfl⟩ := List.mem_map.mp hw
      exact va_Nw.use rfl (C.gl.2.2.2.2.2.1 q hq)
  · obtain ⟨q, hq, rfl⟩ := List.mem_map.mp hw
    exact va_Nw.use rfl (C.gl.2.2.2.2.2.2.1 q hq)
def lwB (L : List Cond) : Bool := L.all (fun w => if goodWord w then lw_tbl.contains w else badL.contains w)
theorem lwB_at {G : MC} {cc : ByteArray} {own : String} (C : Cx G cc own) {L : List Cond} (h : lwB L = true) : ∀ w ∈ L, w.before (gas G) (gs G) = true := fun w hw => by
  have q := List.all_eq_true.mp h w hw
  by_cases g : goodWord w = true
  · rw [if_pos g] at q
    exact C.ts w (List.mem_filter.mpr ⟨List.contains_iff_mem.mp q, g⟩)
  · rw [if_neg g] at q
    exact C.bad w (List.contains_iff_mem.mp q)
section
variable {G : MC} {cc : ByteArray} {own : String} {X M : XF} {K : KF} {L : List (Nat × Value)} {k n pc mc ms : Nat}
theorem g_throwS {Qc : Array Value → State → Outcome → State → Prop} {px : String → XF → XF → KF → Prop} {E text : String} {names : List String} {ik is ic i : Nat} (C : Cx G cc RX10) (hst : (gl G).stackTraces = false) (ht : ∀ x ∈ (gc G).exceptionTable.toList, False) (hQ : gQ G = vx_MQ (gbe G) Qc (XcW (gD G) (gcy G) (gA G) (gad G) px) (gas G) (gs G) mc ms (gA G))
    (hat : lwB (vx_atS RX10 ic E names) = true) (hot : (Bundle.fit E = true ∧ ∀ n ∈ names, Bundle.fit n = true) ∧ ∀ w ∈ Cond.classLink RX10 ik E :: Cond.initialized E :: vx_atS RX10 ic E names, vx_ot w = true) (hk : Cond.classLink RX10 ik E ∈ lw_all) (hini : Cond.initialized E ∈ lw_all) (hi : i < txN.length ∧ txN.getD i (0, "") = (is, text))
    (d0 : decode cc pc = .ok (.new ik, 3)) (d3 : decode cc (pc + 3) = .ok (.dup, 1)) (d4 : decode cc (pc + 4) = .ok (.ldc is, 2)) (d6 : decode cc (pc + 6) = .ok (.invokespecial ic, 3)) (d9 : decode cc (pc + 9) = .ok (.athrow, 1))
    (hR : names.length + 3 < (gR G).frames ∧ 13 * (names.length + 1) + 43 ≤ (gR G).locals) (hf : k + 1 ≤ (gR G).cells ∧ n + 6 ≤ (gR G).slots) (hm : k + 1 ≤ mc ∧ n + 6 ≤ ms) (hp : px E X M K) : GH G (WX G X M K) L k n pc [] := by
  intro H locs ls hl hw hS
  rw [hQ]
  have hsr := C.gl.2.2.2.1 i hi.1
  rw [hi.2] at hsr
  refine vx_throwS C.x C.b hst C.o hot.1.1 hot.1.2 (C.ts _ hk) (C.ts _ hini) hsr (lwB_at C hat) hot.2 C.gl.1 C.gl.2.1 hS (hl.1.trans C.ml.symm) d0 d3 d4 d6 d9 (fun x hx => (ht x hx).elim) hR.1 (by simpa using hR.2) hf.1 hf.2 C.lk ?_ hS.2.2 hm.1 hm.2
  intro t ha hz hq
  exact ⟨(X, M, K), trivial, ⟨hp, hw.kept hq⟩, Nat.le_trans hS.1 hz, fun q h1 h2 => (hq q (Nat.lt_of_lt_of_le h1 hS.1)).trans (hS.2.1 q h1 h2)⟩
theorem g_throwW {Qc : Array Value → State → Outcome → State → Prop} {px : String → XF → XF → KF → Prop} {E text : String} {names : List String} {ik is ic i : Nat} (C : Cx G cc RX10) (hst : (gl G).stackTraces = false) (ht : ∀ x ∈ (gc G).exceptionTable.toList, False) (hQ : gQ G = vx_MQ (gbe G) Qc (XcW (gD G) (gcy G) (gA G) (gad G) px) (gas G) (gs G) mc ms (gA G))
    (hat : lwB (vx_atS RX10 ic E names) = true) (hot : (Bundle.fit E = true ∧ ∀ n ∈ names, Bundle.fit n = true) ∧ ∀ w ∈ Cond.classLink RX10 ik E :: Cond.initialized E :: vx_atS RX10 ic E names, vx_ot w = true) (hk : Cond.classLink RX10 ik E ∈ lw_all) (hini : Cond.initialized E ∈ lw_all) (hi : i < txN.length ∧ txN.getD i (0, "") = (is, text))
    (d0 : decode cc pc = .ok (.new ik, 3)) (d3 : decode cc (pc + 3) = .ok (.dup, 1)) (d4 : decode cc (pc + 4) = .ok (.ldc_w is, 3)) (d7 : decode cc (pc + 7) = .ok (.invokespecial ic, 3)) (d10 : decode cc (pc + 10) = .ok (.athrow, 1))
    (hR : names.length + 3 < (gR G).frames ∧ 13 * (names.length + 1) + 43 ≤ (gR G).locals) (hf : k + 1 ≤ (gR G).cells ∧ n + 6 ≤ (gR G).slots) (hm : k + 1 ≤ mc ∧ n + 6 ≤ ms) (hp : px E X M K) : GH G (WX G X M K) L k n pc [] := by
  intro H locs ls hl hw hS
  rw [hQ]
  have hsr := C.gl.2.2.2.1 i hi.1
  rw [hi.2] at hsr
  refine vx_throwSW C.x C.b hst C.o hot.1.1 hot.1.2 (C.ts _ hk) (C.ts _ hini) hsr (lwB_at C hat) hot.2 C.gl.1 C.gl.2.1 hS (hl.1.trans C.ml.symm) d0 d3 d4 d7 d10 (fun x hx => (ht x hx).elim) hR.1 (by simpa using hR.2) hf.1 hf.2 C.lk ?_ hS.2.2 hm.1 hm.2
  intro t ha hz hq
  exact ⟨(X, M, K), trivial, ⟨hp, hw.kept hq⟩, Nat.le_trans hS.1 hz, fun q h1 h2 => (hq q (Nat.lt_of_lt_of_le h1 hS.1)).trans (hS.2.1 q h1 h2)⟩
end
theorem th_103 : lwB (vx_atS RX10 103 "java/lang/IllegalArgumentException" ["java/lang/RuntimeException", "java/lang/Exception"]) = true := by decide +kernel
theorem th_ot_103 : (Bundle.fit "java/lang/IllegalArgumentException" = true ∧ ∀ n ∈ ["java/lang/RuntimeException", "java/lang/Exception"], Bundle.fit n = true) ∧ ∀ w ∈ Cond.classLink RX10 99 "java/lang/IllegalArgumentException" :: Cond.initialized "java/lang/IllegalArgumentException" :: vx_atS RX10 103 "java/lang/IllegalArgumentException" ["java/lang/RuntimeException", "java/lang/Exception"], vx_ot w = true := by decide +kernel
theorem th_138 : lwB (vx_atS RX10 138 "java/lang/IllegalStateException" ["java/lang/RuntimeException", "java/lang/Exception"]) = true := by decide +kernel
theorem th_ot_138 : (Bundle.fit "java/lang/IllegalStateException" = true ∧ ∀ n ∈ ["java/lang/RuntimeException", "java/lang/Exception"], Bundle.fit n = true) ∧ ∀ w ∈ Cond.classLink RX10 134 "java/lang/IllegalStateException" :: Cond.initialized "java/lang/IllegalStateException" :: vx_atS RX10 138 "java/lang/IllegalStateException" ["java/lang/RuntimeException", "java/lang/Exception"], vx_ot w = true := by decide +kernel
theorem th_146 : lwB (vx_atS RX10 146 "java/lang/IndexOutOfBoundsException" ["java/lang/RuntimeException", "java/lang/Exception"]) = true := by decide +kernel
theorem th_ot_146 : (Bundle.fit "java/lang/IndexOutOfBoundsException" = true ∧ ∀ n ∈ ["java/lang/RuntimeException", "java/lang/Exception"], Bundle.fit n = true) ∧ ∀ w ∈ Cond.classLink RX10 142 "java/lang/IndexOutOfBoundsException" :: Cond.initialized "java/lang/IndexOutOfBoundsException" :: vx_atS RX10 146 "java/lang/IndexOutOfBoundsException" ["java/lang/RuntimeException", "java/lang/Exception"], vx_ot w = true := by decide +kernel
theorem th_170 : lwB (vx_atS RX10 170 "java/lang/UnsupportedOperationException" ["java/lang/RuntimeException", "java/lang/Exception"]) = true := by decide +kernel
theorem th_ot_170 : (Bundle.fit "java/lang/UnsupportedOperationException" = true ∧ ∀ n ∈ ["java/lang/RuntimeException", "java/lang/Exception"], Bundle.fit n = true) ∧ ∀ w ∈ Cond.classLink RX10 168 "java/lang/UnsupportedOperationException" :: Cond.initialized "java/lang/UnsupportedOperationException" :: vx_atS RX10 170 "java/lang/UnsupportedOperationException" ["java/lang/RuntimeException", "java/lang/Exception"], vx_ot w = true := by decide +kernel
def xn (a b c : String) (k : Int32) : String := if k = 1 then a else if k = 2 then b else c
theorem bel_ix {p s : Int32} {n : Nat} (hs : s = nI n) (hn : n < 2 ^ 31) (h : ¬ bel p s = 0) : ∃ j : Nat, j < n ∧ p = nI j := by
  unfold bel at h
  by_cases h1 : p < 0
  · simp [h1] at h
  · by_cases h2 : s ≤ p
    · simp [h1, h2] at h
    · obtain ⟨j, hj, ej⟩ := nI_of h1
      refine ⟨j, ?_, ej⟩
      rw [hs, ej] at h2
      exact Nat.lt_of_not_le (fun q => h2 ((nI_leI hn hj).mpr q))
def xk_pf (s : Int32) : Int32 := if md_ic s = 0 then (if md_hl s = 0 then 0 else 1) else 1
def isTh (kd ab : Int32) : Int32 := if kd = 116 then bel ab 3 else if kd = 115 then bel ab 3 else if kd = 103 then bel ab 6 else if kd = 119 then 1 else if kd = 108 then 1 else if kd = 98 then 1 else 0
theorem isTh_bo (kd ab : Int32) : isBo (isTh kd ab) := by
  unfold isTh
  repeat' split
  all_goals first | exact bel_bo _ _ | exact isBo_0 | exact isBo_1
def cl_val (X : XF) (j : Nat) : Int32 := if X 25 j = 116 then X 5 (X 26 j).toNatClampNeg else if X 25 j = 115 then sn_tell (X 19) (X 18) (X 26 j).toNatClampNeg else if X 25 j = 119 then X 100 0 else if X 25 j = 108 then X 104 0 else if X 25 j = 98 then bt_sum (X 23) 8 else if X 41 (X 26 j).toNatClampNeg = 0 then 0 else 1
def cl_iw (X : XF) (j : Nat) : Int32 := if X 118 0 = 45 then 0 else if rl_wv (X 33 j) (X 34 j) (X 106 0) = 0 then 0 else 1
theorem cl_iw_bo (X : XF) (j : Nat) : isBo (cl_iw X j) := by
  unfold cl_iw
  repeat' split
  all_goals first | exact isBo_0 | exact isBo_1
def cl_met (X : XF) (j : Nat) : Int32 := if rl_met (X 31 j) (X 29 j) (X 27 j) (X 28 j) (cl_val X j) = 0 then (if cl_iw X j = 0 then 0 else 1) else 1
theorem cl_met_bo (X : XF) (j : Nat) : isBo (cl_met X j) := by
  unfold cl_met
  repeat' split
  all_goals first | exact isBo_0 | exact isBo_1
def xk_tank (p1 p2 p3 p4 : Int32) : Int32 := if bel p1 3 = 0 then 1 else if inr 0 100000 p2 = 0 then 1 else if inr 0 1000 p3 = 0 then 1 else if inr 0 100 p4 = 0 then 1 else 0
def xk_b (p n : Int32) : Int32 := if bel p n = 0 then 1 else 0
def xk_drain (p1 p2 : Int32) : Int32 := if bel p1 3 = 0 then 1 else if inr 1 100000 p2 = 0 then 1 else 0
def xk_step (z : Int32) (st p1 p2 : Int32) : Int32 := if inr (-600) (-1) p1 = 0 then 1 else if inr 1 300 p2 = 0 then 1 else if 16 ≤ z then 2 else if xk_pf st = 0 then 0 else 2
def xk_after (z st p1 p2 : Int32) : Int32 := if bel p1 z = 0 then 1 else if bel p2 z = 0 then 1 else if p2 < p1 then (if xk_pf st = 0 then 0 else 3) else 2
def xk_mark (f : Nat → Int32) (z : Nat) (n st p1 p2 p3 : Int32) : Int32 := if inr (-600) (-1) p1 = 0 then 1 else if inr 0 300 p2 = 0 then 1 else if mk_find f p1 z 0 = -1 then (if adn (ush p3 n) = 0 then 2 else if 6 ≤ nI z then 3 else if xk_pf st = 0 then 0 else 3) else 1
def xk_sense (p1 p2 : Int32) : Int32 := if bel p1 9 = 0 then 1 else if inr (-9999) 9999 p2 = 0 then 1 else 0
def sn_last (o : Nat → Int32) (j : Nat) : Int32 := if o j = 0 then (if sn_cnt o (j / 3) 3 = 1 then 1 else 0) else 0
def xk_inh (o : Nat → Int32) (p1 p2 : Int32) : Int32 := if bel p1 9 = 0 then 1 else if p2 = 0 then 0 else if sn_last o p1.toNatClampNeg = 0 then 0 else 2
def xk_w (lo hi p1 : Int32) : Int32 := if inr lo hi p1 = 0 then 1 else 0
def xk_boat (p1 p2 p3 : Int32) : Int32 := if bel p1 8 = 0 then 1 else if inr 0 50 p2 = 0 then 1 else if inr 0 99 p3 = 0 then 1 else 0
def xk_rule (z p1 p2 p3 p4 p5 : Int32) : Int32 := if isTh p1 p2 = 0 then 1 else if p4 < p3 then 1 else if inr 0 300 p5 = 0 then 1 else if z < 12 then 0 else 2
def xk_may (z p1 p2 : Int32) : Int32 := if bel p1 z = 0 then 1 else if bel p2 6 = 0 then 2 else 0
def xk_waive (w : Nat → Int32) (z p1 p2 p3 : Int32) : Int32 := if bel p1 z = 0 then 1 else if bel p2 6 = 0 then 2 else if inr (-600) 0 p3 = 0 then 2 else if rl_may (w p1.toNatClampNeg) p2 = 0 then 3 else 0
def xk_track (p1 p2 : Int32) : Int32 := if bel p1 2 = 0 then 1 else if inr (-999) 999 p2 = 0 then 1 else 0
def xk_beg (s : Int32) : Int32 := if s = 45 then 1 else 0
def xk_cau (s : Int32) : Int32 := if md_hc s = 0 then 1 else 0
def xk_car (s c : Int32) : Int32 := if md_hc s = 0 then 1 else if c = -1 then 1 else 0

set_option maxHeartbeats 400000 in
set_option maxRecDepth 100000 in
/-- isCountOn.isCountOn -/
theorem c_X10_isCountOn (l : Launch) (D : va_G) (cy : Nat → ClassId) (A : Nat → Prop) (ad sad : Nat → Nat) (X M : XF) (K : KF) : Met l yX10_isCountOn (wsA yX10_isCountOn cX10_isCountOn 1 (some .boolean)) ({ frames := 0, cells := 0, slots := 0, locals := 0 }) (PcW D cy A ad sad X M K [.ref (ad 0)]) (QiW D cy A ad (fun r X1 M1 K1 => r = md_ic (X 118 0) ∧ X1 = X ∧ M1 = M ∧ K1 = K)) 0 0 A := by
  refine met_ofW [(0, .ref (ad 0))] (by decide +kernel) (Nat.le_of_ble_eq_true rfl) rfl ?_
  intro G C hl hR hL hD hcy hA had hsa hr hQ
  subst hD hcy hA had hsa hl
  refine g_aload_n C dX10_isCountOn_0 0 rfl ?_
  refine gf_X10_log C tw332 dX10_isCountOn_1 ?_
  refine gf_X4_state C tw314 dX10_isCountOn_4 ?_
  refine g_bipush C dX10_isCountOn_7 (v := 99) (by decide) ?_
  refine g_icmp_eq C dX10_isCountOn_9 (tgt := 24) (by decide) (fun c_9 => ?_) (fun c_9 => ?_)
  · try simp only [sa_ap, si_ap, reduceIte, Nat.reduceEqDiff, up_us, lg_cmp_lt, lg_cmp_gt, lg_cmp_le, lg_cmp_ge] at c_9
    refine g_iconst C dX10_isCountOn_24 (v := 1) (by decide) ?_
    refine g_goto C dX10_isCountOn_25 (tgt := 29) (by decide) ?_
    refine g_zretW C hr (by decide) hQ (Nat.le_refl _) (Nat.le_refl _) dX10_isCountOn_29 ?_
    exact ⟨(by first | with_reducible rfl | (first | with_reducible rfl | (simp only [sa_ap, si_ap, si_sa, sa_sa, sa_3, sa_4, sa_5, sa_6, sa_7, sa_8, md_ic, up_us, up_up, c_9]; done) | (simp [sa_ap, si_ap, si_sa, sa_sa, sa_3, sa_4, sa_5, sa_6, sa_7, sa_8, md_ic, up_us, up_up, c_9]; done))), (by first | with_reducible rfl | (first | with_reducible rfl | (simp only [sa_ap, si_ap, si_sa, sa_sa, sa_3, sa_4, sa_5, sa_6, sa_7, sa_8, md_ic, up_us, up_up, c_9]; done) | (simp [sa_ap, si_ap, si_sa, sa_sa, sa_3, sa_4, sa_5, sa_6, sa_7, sa_8, md_ic, up_us, up_up, c_9]; done))), rfl, rfl⟩
  · try simp only [sa_ap, si_ap, reduceIte, Nat.reduceEqDiff, up_us, lg_cmp_lt, lg_cmp_gt, lg_cmp_le, lg_cmp_ge] at c_9
    refine g_aload_n C dX10_isCountOn_12 0 rfl ?_
    refine gf_X10_log C tw332 dX10_isCountOn_13 ?_
    refine gf_X4_state C tw314 dX10_isCountOn_16 ?_
    refine g_bipush C dX10_isCountOn_19 (v := 104) (by decide) ?_
    refine g_icmp_ne C dX10_isCountOn_21 (tgt := 28) (by decide) (fun c_21 => ?_) (fun c_21 => ?_)
    · try simp only [sa_ap, si_ap, reduceIte, Nat.reduceEqDiff, up_us, lg_cmp_lt, lg_cmp_gt, lg_cmp_le, lg_cmp_ge] at c_21
      refine g_iconst C dX10_isCountOn_28 (v := 0) (by decide) ?_
      refine g_zretW C hr (by decide) hQ (Nat.le_refl _) (Nat.le_refl _) dX10_isCountOn_29 ?_
      exact ⟨(by first | with_reducible rfl | (first | with_reducible rfl | (simp only [sa_ap, si_ap, si_sa, sa_sa, sa_3, sa_4, sa_5, sa_6, sa_7, sa_8, md_ic, up_us, up_up, c_9, c_21]; done) | (simp [sa_ap, si_ap, si_sa, sa_sa, sa_3, sa_4, sa_5, sa_6, sa_7, sa_8, md_ic, up_us, up_up, c_9, c_21]; done))), (by first | with_reducible rfl | (first | with_reducible rfl | (simp only [sa_ap, si_ap, si_sa, sa_sa, sa_3, sa_4, sa_5, sa_6, sa_7, sa_8, md_ic, up_us, up_up, c_9, c_21]; done) | (simp [sa_ap, si_ap, si_sa, sa_sa, sa_3, sa_4, sa_5, sa_6, sa_7, sa_8, md_ic, up_us, up_up, c_9, c_21]; done))), rfl, rfl⟩
    · try simp only [sa_ap, si_ap, reduceIte, Nat.reduceEqDiff, up_us, lg_cmp_lt, lg_cmp_gt, lg_cmp_le, lg_cmp_ge] at c_21
      refine g_iconst C dX10_isCountOn_24 (v := 1) (by decide) ?_
      refine g_goto C dX10_isCountOn_25 (tgt := 29) (by decide) ?_
      refine g_zretW C hr (by decide) hQ (Nat.le_refl _) (Nat.le_refl _) dX10_isCountOn_29 ?_
      exact ⟨(by first | with_reducible rfl | (first | with_reducible rfl | (simp only [sa_ap, si_ap, si_sa, sa_sa, sa_3, sa_4, sa_5, sa_6, sa_7, sa_8, md_ic, up_us, up_up, c_9, c_21]; done) | (simp [sa_ap, si_ap, si_sa, sa_sa, sa_3, sa_4, sa_5, sa_6, sa_7, sa_8, md_ic, up_us, up_up, c_9, c_21]; done))), (by first | with_reducible rfl | (first | with_reducible rfl | (simp only [sa_ap, si_ap, si_sa, sa_sa, sa_3, sa_4, sa_5, sa_6, sa_7, sa_8, md_ic, up_us, up_up, c_9, c_21]; done) | (simp [sa_ap, si_ap, si_sa, sa_sa, sa_3, sa_4, sa_5, sa_6, sa_7, sa_8, md_ic, up_us, up_up, c_9, c_21]; done))), rfl, rfl⟩

set_option maxHeartbeats 400000 in
set_option maxRecDepth 100000 in
/-- hasLeft.hasLeft -/
theorem c_X10_hasLeft (l : Launch) (D : va_G) (cy : Nat → ClassId) (A : Nat → Prop) (ad sad : Nat → Nat) (X M : XF) (K : KF) : Met l yX10_hasLeft (wsA yX10_hasLeft cX10_hasLeft 1 (some .boolean)) ({ frames := 0, cells := 0, slots := 0, locals := 0 }) (PcW D cy A ad sad X M K [.ref (ad 0)]) (QiW D cy A ad (fun r X1 M1 K1 => r = md_hl (X 118 0) ∧ X1 = X ∧ M1 = M ∧ K1 = K)) 0 0 A := by
  refine met_ofW [(0, .ref (ad 0))] (by decide +kernel) (Nat.le_of_ble_eq_true rfl) rfl ?_
  intro G C hl hR hL hD hcy hA had hsa hr hQ
  subst hD hcy hA had hsa hl
  refine g_aload_n C dX10_hasLeft_0 0 rfl ?_
  refine gf_X10_log C tw332 dX10_hasLeft_1 ?_
  refine gf_X4_state C tw314 dX10_hasLeft_4 ?_
  refine g_bipush C dX10_hasLeft_7 (v := 102) (by decide) ?_
  refine g_icmp_eq C dX10_hasLeft_9 (tgt := 36) (by decide) (fun c_9 => ?_) (fun c_9 => ?_)
  · try simp only [sa_ap, si_ap, reduceIte, Nat.reduceEqDiff, up_us, lg_cmp_lt, lg_cmp_gt, lg_cmp_le, lg_cmp_ge] at c_9
    refine g_iconst C dX10_hasLeft_36 (v := 1) (by decide) ?_
    refine g_goto C dX10_hasLeft_37 (tgt := 41) (by decide) ?_
    refine g_zretW C hr (by decide) hQ (Nat.le_refl _) (Nat.le_refl _) dX10_hasLeft_41 ?_
    exact ⟨(by first | with_reducible rfl | (first | with_reducible rfl | (simp only [sa_ap, si_ap, si_sa, sa_sa, sa_3, sa_4, sa_5, sa_6, sa_7, sa_8, md_hl, up_us, up_up, c_9]; done) | (simp [sa_ap, si_ap, si_sa, sa_sa, sa_3, sa_4, sa_5, sa_6, sa_7, sa_8, md_hl, up_us, up_up, c_9]; done))), (by first | with_reducible rfl | (first | with_reducible rfl | (simp only [sa_ap, si_ap, si_sa, sa_sa, sa_3, sa_4, sa_5, sa_6, sa_7, sa_8, md_hl, up_us, up_up, c_9]; done) | (simp [sa_ap, si_ap, si_sa, sa_sa, sa_3, sa_4, sa_5, sa_6, sa_7, sa_8, md_hl, up_us, up_up, c_9]; done))), rfl, rfl⟩
  · try simp only [sa_ap, si_ap, reduceIte, Nat.reduceEqDiff, up_us, lg_cmp_lt, lg_cmp_gt, lg_cmp_le, lg_cmp_ge] at c_9
    refine g_aload_n C dX10_hasLeft_12 0 rfl ?_
    refine gf_X10_log C tw332 dX10_hasLeft_13 ?_
    refine gf_X4_state C tw314 dX10_hasLeft_16 ?_
    refine g_bipush C dX10_hasLeft_19 (v := 120) (by decide) ?_
    refine g_icmp_eq C dX10_hasLeft_21 (tgt := 36) (by decide) (fun c_21 => ?_) (fun c_21 => ?_)
    · try simp only [sa_ap, si_ap, reduceIte, Nat.reduceEqDiff, up_us, lg_cmp_lt, lg_cmp_gt, lg_cmp_le, lg_cmp_ge] at c_21
      refine g_iconst C dX10_hasLeft_36 (v := 1) (by decide) ?_
      refine g_goto C dX10_hasLeft_37 (tgt := 41) (by decide) ?_
      refine g_zretW C hr (by decide) hQ (Nat.le_refl _) (Nat.le_refl _) dX10_hasLeft_41 ?_
      exact ⟨(by first | with_reducible rfl | (first | with_reducible rfl | (simp only [sa_ap, si_ap, si_sa, sa_sa, sa_3, sa_4, sa_5, sa_6, sa_7, sa_8, md_hl, up_us, up_up, c_9, c_21]; done) | (simp [sa_ap, si_ap, si_sa, sa_sa, sa_3, sa_4, sa_5, sa_6, sa_7, sa_8, md_hl, up_us, up_up, c_9, c_21]; done))), (by first | with_reducible rfl | (first | with_reducible rfl | (simp only [sa_ap, si_ap, si_sa, sa_sa, sa_3, sa_4, sa_5, sa_6, sa_7, sa_8, md_hl, up_us, up_up, c_9, c_21]; done) | (simp [sa_ap, si_ap, si_sa, sa_sa, sa_3, sa_4, sa_5, sa_6, sa_7, sa_8, md_hl, up_us, up_up, c_9, c_21]; done))), rfl, rfl⟩
    · try simp only [sa_ap, si_ap, reduceIte, Nat.reduceEqDiff, up_us, lg_cmp_lt, lg_cmp_gt, lg_cmp_le, lg_cmp_ge] at c_21
      refine g_aload_n C dX10_hasLeft_24 0 rfl ?_
      refine gf_X10_log C tw332 dX10_hasLeft_25 ?_
      refine gf_X4_state C tw314 dX10_hasLeft_28 ?_
      refine g_bipush C dX10_hasLeft_31 (v := 111) (by decide) ?_
      refine g_icmp_ne C dX10_hasLeft_33 (tgt := 40) (by decide) (fun c_33 => ?_) (fun c_33 => ?_)
      · try simp only [sa_ap, si_ap, reduceIte, Nat.reduceEqDiff, up_us, lg_cmp_lt, lg_cmp_gt, lg_cmp_le, lg_cmp_ge] at c_33
        refine g_iconst C dX10_hasLeft_40 (v := 0) (by decide) ?_
        refine g_zretW C hr (by decide) hQ (Nat.le_refl _) (Nat.le_refl _) dX10_hasLeft_41 ?_
        exact ⟨(by first | with_reducible rfl | (first | with_reducible rfl | (simp only [sa_ap, si_ap, si_sa, sa_sa, sa_3, sa_4, sa_5, sa_6, sa_7, sa_8, md_hl, up_us, up_up, c_9, c_21, c_33]; done) | (simp [sa_ap, si_ap, si_sa, sa_sa, sa_3, sa_4, sa_5, sa_6, sa_7, sa_8, md_hl, up_us, up_up, c_9, c_21, c_33]; done))), (by first | with_reducible rfl | (first | with_reducible rfl | (simp only [sa_ap, si_ap, si_sa, sa_sa, sa_3, sa_4, sa_5, sa_6, sa_7, sa_8, md_hl, up_us, up_up, c_9, c_21, c_33]; done) | (simp [sa_ap, si_ap, si_sa, sa_sa, sa_3, sa_4, sa_5, sa_6, sa_7, sa_8, md_hl, up_us, up_up, c_9, c_21, c_33]; done))), rfl, rfl⟩
      · try simp only [sa_ap, si_ap, reduceIte, Nat.reduceEqDiff, up_us, lg_cmp_lt, lg_cmp_gt, lg_cmp_le, lg_cmp_ge] at c_33
        refine g_iconst C dX10_hasLeft_36 (v := 1) (by decide) ?_
        refine g_goto C dX10_hasLeft_37 (tgt := 41) (by decide) ?_
        refine g_zretW C hr (by decide) hQ (Nat.le_refl _) (Nat.le_refl _) dX10_hasLeft_41 ?_
        exact ⟨(by first | with_reducible rfl | (first | with_reducible rfl | (simp only [sa_ap, si_ap, si_sa, sa_sa, sa_3, sa_4, sa_5, sa_6, sa_7, sa_8, md_hl, up_us, up_up, c_9, c_21, c_33]; done) | (simp [sa_ap, si_ap, si_sa, sa_sa, sa_3, sa_4, sa_5, sa_6, sa_7, sa_8, md_hl, up_us, up_up, c_9, c_21, c_33]; done))), (by first | with_reducible rfl | (first | with_reducible rfl | (simp only [sa_ap, si_ap, si_sa, sa_sa, sa_3, sa_4, sa_5, sa_6, sa_7, sa_8, md_hl, up_us, up_up, c_9, c_21, c_33]; done) | (simp [sa_ap, si_ap, si_sa, sa_sa, sa_3, sa_4, sa_5, sa_6, sa_7, sa_8, md_hl, up_us, up_up, c_9, c_21, c_33]; done))), rfl, rfl⟩

set_option maxHeartbeats 400000 in
set_option maxRecDepth 100000 in
/-- isThereCause.isThereCause -/
theorem c_X10_isThereCause (l : Launch) (D : va_G) (cy : Nat → ClassId) (A : Nat → Prop) (ad sad : Nat → Nat) (X M : XF) (K : KF) : Met l yX10_isThereCause (wsA yX10_isThereCause cX10_isThereCause 1 (some .boolean)) ({ frames := 0, cells := 0, slots := 0, locals := 0 }) (PcW D cy A ad sad X M K [.ref (ad 0)]) (QiW D cy A ad (fun r X1 M1 K1 => r = md_hc (X 118 0) ∧ X1 = X ∧ M1 = M ∧ K1 = K)) 0 0 A := by
  refine met_ofW [(0, .ref (ad 0))] (by decide +kernel) (Nat.le_of_ble_eq_true rfl) rfl ?_
  intro G C hl hR hL hD hcy hA had hsa hr hQ
  subst hD hcy hA had hsa hl
  refine g_aload_n C dX10_isThereCause_0 0 rfl ?_
  refine gf_X10_log C tw332 dX10_isThereCause_1 ?_
  refine gf_X4_state C tw314 dX10_isThereCause_4 ?_
  refine g_bipush C dX10_isThereCause_7 (v := 104) (by decide) ?_
  refine g_icmp_eq C dX10_isThereCause_9 (tgt := 36) (by decide) (fun c_9 => ?_) (fun c_9 => ?_)
  · try simp only [sa_ap, si_ap, reduceIte, Nat.reduceEqDiff, up_us, lg_cmp_lt, lg_cmp_gt, lg_cmp_le, lg_cmp_ge] at c_9
    refine g_iconst C dX10_isThereCause_36 (v := 1) (by decide) ?_
    refine g_goto C dX10_isThereCause_37 (tgt := 41) (by decide) ?_
    refine g_zretW C hr (by decide) hQ (Nat.le_refl _) (Nat.le_refl _) dX10_isThereCause_41 ?_
    exact ⟨(by first | with_reducible rfl | (first | with_reducible rfl | (simp only [sa_ap, si_ap, si_sa, sa_sa, sa_3, sa_4, sa_5, sa_6, sa_7, sa_8, md_hc, up_us, up_up, c_9]; done) | (simp [sa_ap, si_ap, si_sa, sa_sa, sa_3, sa_4, sa_5, sa_6, sa_7, sa_8, md_hc, up_us, up_up, c_9]; done))), (by first | with_reducible rfl | (first | with_reducible rfl | (simp only [sa_ap, si_ap, si_sa, sa_sa, sa_3, sa_4, sa_5, sa_6, sa_7, sa_8, md_hc, up_us, up_up, c_9]; done) | (simp [sa_ap, si_ap, si_sa, sa_sa, sa_3, sa_4, sa_5, sa_6, sa_7, sa_8, md_hc, up_us, up_up, c_9]; done))), rfl, rfl⟩
  · try simp only [sa_ap, si_ap, reduceIte, Nat.reduceEqDiff, up_us, lg_cmp_lt, lg_cmp_gt, lg_cmp_le, lg_cmp_ge] at c_9
    refine g_aload_n C dX10_isThereCause_12 0 rfl ?_
    refine gf_X10_log C tw332 dX10_isThereCause_13 ?_
    refine gf_X4_state C tw314 dX10_isThereCause_16 ?_
    refine g_bipush C dX10_isThereCause_19 (v := 115) (by decide) ?_
    refine g_icmp_eq C dX10_isThereCause_21 (tgt := 36) (by decide) (fun c_21 => ?_) (fun c_21 => ?_)
    · try simp only [sa_ap, si_ap, reduceIte, Nat.reduceEqDiff, up_us, lg_cmp_lt, lg_cmp_gt, lg_cmp_le, lg_cmp_ge] at c_21
      refine g_iconst C dX10_isThereCause_36 (v := 1) (by decide) ?_
      refine g_goto C dX10_isThereCause_37 (tgt := 41) (by decide) ?_
      refine g_zretW C hr (by decide) hQ (Nat.le_refl _) (Nat.le_refl _) dX10_isThereCause_41 ?_
      exact ⟨(by first | with_reducible rfl | (first | with_reducible rfl | (simp only [sa_ap, si_ap, si_sa, sa_sa, sa_3, sa_4, sa_5, sa_6, sa_7, sa_8, md_hc, up_us, up_up, c_9, c_21]; done) | (simp [sa_ap, si_ap, si_sa, sa_sa, sa_3, sa_4, sa_5, sa_6, sa_7, sa_8, md_hc, up_us, up_up, c_9, c_21]; done))), (by first | with_reducible rfl | (first | with_reducible rfl | (simp only [sa_ap, si_ap, si_sa, sa_sa, sa_3, sa_4, sa_5, sa_6, sa_7, sa_8, md_hc, up_us, up_up, c_9, c_21]; done) | (simp [sa_ap, si_ap, si_sa, sa_sa, sa_3, sa_4, sa_5, sa_6, sa_7, sa_8, md_hc, up_us, up_up, c_9, c_21]; done))), rfl, rfl⟩
    · try simp only [sa_ap, si_ap, reduceIte, Nat.reduceEqDiff, up_us, lg_cmp_lt, lg_cmp_gt, lg_cmp_le, lg_cmp_ge] at c_21
      refine g_aload_n C dX10_isThereCause_24 0 rfl ?_
      refine gf_X10_log C tw332 dX10_isThereCause_25 ?_
      refine gf_X4_state C tw314 dX10_isThereCause_28 ?_
      refine g_bipush C dX10_isThereCause_31 (v := 120) (by decide) ?_
      refine g_icmp_ne C dX10_isThereCause_33 (tgt := 40) (by decide) (fun c_33 => ?_) (fun c_33 => ?_)
      · try simp only [sa_ap, si_ap, reduceIte, Nat.reduceEqDiff, up_us, lg_cmp_lt, lg_cmp_gt, lg_cmp_le, lg_cmp_ge] at c_33
        refine g_iconst C dX10_isThereCause_40 (v := 0) (by decide) ?_
        refine g_zretW C hr (by decide) hQ (Nat.le_refl _) (Nat.le_refl _) dX10_isThereCause_41 ?_
        exact ⟨(by first | with_reducible rfl | (first | with_reducible rfl | (simp only [sa_ap, si_ap, si_sa, sa_sa, sa_3, sa_4, sa_5, sa_6, sa_7, sa_8, md_hc, up_us, up_up, c_9, c_21, c_33]; done) | (simp [sa_ap, si_ap, si_sa, sa_sa, sa_3, sa_4, sa_5, sa_6, sa_7, sa_8, md_hc, up_us, up_up, c_9, c_21, c_33]; done))), (by first | with_reducible rfl | (first | with_reducible rfl | (simp only [sa_ap, si_ap, si_sa, sa_sa, sa_3, sa_4, sa_5, sa_6, sa_7, sa_8, md_hc, up_us, up_up, c_9, c_21, c_33]; done) | (simp [sa_ap, si_ap, si_sa, sa_sa, sa_3, sa_4, sa_5, sa_6, sa_7, sa_8, md_hc, up_us, up_up, c_9, c_21, c_33]; done))), rfl, rfl⟩
      · try simp only [sa_ap, si_ap, reduceIte, Nat.reduceEqDiff, up_us, lg_cmp_lt, lg_cmp_gt, lg_cmp_le, lg_cmp_ge] at c_33
        refine g_iconst C dX10_isThereCause_36 (v := 1) (by decide) ?_
        refine g_goto C dX10_isThereCause_37 (tgt := 41) (by decide) ?_
        refine g_zretW C hr (by decide) hQ (Nat.le_refl _) (Nat.le_refl _) dX10_isThereCause_41 ?_
        exact ⟨(by first | with_reducible rfl | (first | with_reducible rfl | (simp only [sa_ap, si_ap, si_sa, sa_sa, sa_3, sa_4, sa_5, sa_6, sa_7, sa_8, md_hc, up_us, up_up, c_9, c_21, c_33]; done) | (simp [sa_ap, si_ap, si_sa, sa_sa, sa_3, sa_4, sa_5, sa_6, sa_7, sa_8, md_hc, up_us, up_up, c_9, c_21, c_33]; done))), (by first | with_reducible rfl | (first | with_reducible rfl | (simp only [sa_ap, si_ap, si_sa, sa_sa, sa_3, sa_4, sa_5, sa_6, sa_7, sa_8, md_hc, up_us, up_up, c_9, c_21, c_33]; done) | (simp [sa_ap, si_ap, si_sa, sa_sa, sa_3, sa_4, sa_5, sa_6, sa_7, sa_8, md_hc, up_us, up_up, c_9, c_21, c_33]; done))), rfl, rfl⟩

set_option maxHeartbeats 400000 in
set_option maxRecDepth 100000 in
/-- isPlanFixed.isPlanFixed -/
theorem c_X10_isPlanFixed (l : Launch) (D : va_G) (cy : Nat → ClassId) (A : Nat → Prop) (ad sad : Nat → Nat) (X M : XF) (K : KF) : Met l yX10_isPlanFixed (wsA yX10_isPlanFixed cX10_isPlanFixed 1 (some .boolean)) ({ frames := 1, cells := 0, slots := 0, locals := 20 }) (PcW D cy A ad sad X M K [.ref (ad 0)]) (QiW D cy A ad (fun r X1 M1 K1 => r = xk_pf (X 118 0) ∧ X1 = X ∧ M1 = M ∧ K1 = K)) 0 0 A := by
  refine met_ofW [(0, .ref (ad 0))] (by decide +kernel) (Nat.le_of_ble_eq_true rfl) rfl ?_
  intro G C hl hR hL hD hcy hA had hsa hr hQ
  subst hD hcy hA had hsa hl
  refine g_aload_n C dX10_isPlanFixed_0 0 rfl ?_
  refine g_callViW C dX10_isPlanFixed_1 (c_X10_isCountOn _ _ _ _ _ _ _ _ _ ) tw555 tw557 tp4 tw1 tw558 (rv_X10 C) rfl ⟨by decide +kernel, by decide +kernel, rfl⟩ ⟨rfl, rfl⟩ (by rw [hR]; decide) (Nat.le_of_ble_eq_true rfl) (by rw [hR]; decide) (fun r_1 X1 M1 K1 h_2 => ?_)
  obtain ⟨er_1, hX1, hM1, hK1⟩ := h_2
  subst X1 M1 K1
  try simp only [sa_ap, si_ap, reduceIte, Nat.reduceEqDiff] at er_1
  refine g_if_ne C dX10_isPlanFixed_4 (tgt := 14) (by decide) (fun c_4 => ?_) (fun c_4 => ?_)
  · try simp only [sa_ap, si_ap, reduceIte, Nat.reduceEqDiff, up_us, lg_cmp_lt, lg_cmp_gt, lg_cmp_le, lg_cmp_ge] at c_4
    refine g_iconst C dX10_isPlanFixed_14 (v := 1) (by decide) ?_
    refine g_goto C dX10_isPlanFixed_15 (tgt := 19) (by decide) ?_
    refine g_zretW C hr (by decide) hQ (Nat.le_refl _) (Nat.le_refl _) dX10_isPlanFixed_19 ?_
    exact ⟨(by first | with_reducible rfl | (subst er_1; first | with_reducible rfl | (simp only [sa_ap, si_ap, si_sa, sa_sa, sa_3, sa_4, sa_5, sa_6, sa_7, sa_8, xk_pf, up_us, up_up, c_4]; done) | (simp [sa_ap, si_ap, si_sa, sa_sa, sa_3, sa_4, sa_5, sa_6, sa_7, sa_8, xk_pf, up_us, up_up, c_4]; done))), (by first | with_reducible rfl | (subst er_1; first | with_reducible rfl | (simp only [sa_ap, si_ap, si_sa, sa_sa, sa_3, sa_4, sa_5, sa_6, sa_7, sa_8, xk_pf, up_us, up_up, c_4]; done) | (simp [sa_ap, si_ap, si_sa, sa_sa, sa_3, sa_4, sa_5, sa_6, sa_7, sa_8, xk_pf, up_us, up_up, c_4]; done))), rfl, rfl⟩
  · try simp only [sa_ap, si_ap, reduceIte, Nat.reduceEqDiff, up_us, lg_cmp_lt, lg_cmp_gt, lg_cmp_le, lg_cmp_ge] at c_4
    refine g_aload_n C dX10_isPlanFixed_7 0 rfl ?_
    refine g_callViW C dX10_isPlanFixed_8 (c_X10_hasLeft _ _ _ _ _ _ _ _ _ ) tw559 tw561 tp5 tw1 tw562 (rv_X10 C) rfl ⟨by decide +kernel, by decide +kernel, rfl⟩ ⟨rfl, rfl⟩ (by rw [hR]; decide) (Nat.le_of_ble_eq_true rfl) (by rw [hR]; decide) (fun r_3 X1 M1 K1 h_4 => ?_)
    obtain ⟨er_3, hX1, hM1, hK1⟩ := h_4
    subst X1 M1 K1
    try simp only [sa_ap, si_ap, reduceIte, Nat.reduceEqDiff] at er_3
    refine g_if_eq C dX10_isPlanFixed_11 (tgt := 18) (by decide) (fun c_11 => ?_) (fun c_11 => ?_)
    · try simp only [sa_ap, si_ap, reduceIte, Nat.reduceEqDiff, up_us, lg_cmp_lt, lg_cmp_gt, lg_cmp_le, lg_cmp_ge] at c_11
      refine g_iconst C dX10_isPlanFixed_18 (v := 0) (by decide) ?_
      refine g_zretW C hr (by decide) hQ (Nat.le_refl _) (Nat.le_refl _) dX10_isPlanFixed_19 ?_
      exact ⟨(by first | with_reducible rfl | (subst er_1 er_3; first | with_reducible rfl | (simp only [sa_ap, si_ap, si_sa, sa_sa, sa_3, sa_4, sa_5, sa_6, sa_7, sa_8, xk_pf, up_us, up_up, c_4, c_11]; done) | (simp [sa_ap, si_ap, si_sa, sa_sa, sa_3, sa_4, sa_5, sa_6, sa_7, sa_8, xk_pf, up_us, up_up, c_4, c_11]; done))), (by first | with_reducible rfl | (subst er_1 er_3; first | with_reducible rfl | (simp only [sa_ap, si_ap, si_sa, sa_sa, sa_3, sa_4, sa_5, sa_6, sa_7, sa_8, xk_pf, up_us, up_up, c_4, c_11]; done) | (simp [sa_ap, si_ap, si_sa, sa_sa, sa_3, sa_4, sa_5, sa_6, sa_7, sa_8, xk_pf, up_us, up_up, c_4, c_11]; done))), rfl, rfl⟩
    · try simp only [sa_ap, si_ap, reduceIte, Nat.reduceEqDiff, up_us, lg_cmp_lt, lg_cmp_gt, lg_cmp_le, lg_cmp_ge] at c_11
      refine g_iconst C dX10_isPlanFixed_14 (v := 1) (by decide) ?_
      refine g_goto C dX10_isPlanFixed_15 (tgt := 19) (by decide) ?_
      refine g_zretW C hr (by decide) hQ (Nat.le_refl _) (Nat.le_refl _) dX10_isPlanFixed_19 ?_
      exact ⟨(by first | with_reducible rfl | (subst er_1 er_3; first | with_reducible rfl | (simp only [sa_ap, si_ap, si_sa, sa_sa, sa_3, sa_4, sa_5, sa_6, sa_7, sa_8, xk_pf, up_us, up_up, c_4, c_11]; done) | (simp [sa_ap, si_ap, si_sa, sa_sa, sa_3, sa_4, sa_5, sa_6, sa_7, sa_8, xk_pf, up_us, up_up, c_4, c_11]; done))), (by first | with_reducible rfl | (subst er_1 er_3; first | with_reducible rfl | (simp only [sa_ap, si_ap, si_sa, sa_sa, sa_3, sa_4, sa_5, sa_6, sa_7, sa_8, xk_pf, up_us, up_up, c_4, c_11]; done) | (simp [sa_ap, si_ap, si_sa, sa_sa, sa_3, sa_4, sa_5, sa_6, sa_7, sa_8, xk_pf, up_us, up_up, c_4, c_11]; done))), rfl, rfl⟩

set_option maxHeartbeats 400000 in
set_option maxRecDepth 100000 in
/-- isThing.isThing -/
theorem c_X10_isThing (l : Launch) (D : va_G) (cy : Nat → ClassId) (A : Nat → Prop) (ad sad : Nat → Nat) (X M : XF) (K : KF) (p1 p2 : Int32) : Met l yX10_isThing (wsA yX10_isThing cX10_isThing 2 (some .boolean)) ({ frames := 1, cells := 0, slots := 0, locals := 21 }) (PcW D cy A ad sad X M K [.int p1, .int p2]) (QiW D cy A ad (fun r X1 M1 K1 => r = isTh p1 p2 ∧ X1 = X ∧ M1 = M ∧ K1 = K)) 0 0 A := by
  refine met_ofW [(0, .int p1), (1, .int p2)] (by decide +kernel) (Nat.le_of_ble_eq_true rfl) rfl ?_
  intro G C hl hR hL hD hcy hA had hsa hr hQ
  subst hD hcy hA had hsa hl
  refine g_iload_n C dX10_isThing_0 0 rfl ?_
  refine g_bipush C dX10_isThing_1 (v := 116) (by decide) ?_
  refine g_icmp_ne C dX10_isThing_3 (tgt := 12) (by decide) (fun c_3 => ?_) (fun c_3 => ?_)
  · try simp only [sa_ap, si_ap, reduceIte, Nat.reduceEqDiff, up_us, lg_cmp_lt, lg_cmp_gt, lg_cmp_le, lg_cmp_ge] at c_3
    refine g_iload_n C dX10_isThing_12 0 rfl ?_
    refine g_bipush C dX10_isThing_13 (v := 115) (by decide) ?_
    refine g_icmp_ne C dX10_isThing_15 (tgt := 24) (by decide) (fun c_15 => ?_) (fun c_15 => ?_)
    · try simp only [sa_ap, si_ap, reduceIte, Nat.reduceEqDiff, up_us, lg_cmp_lt, lg_cmp_gt, lg_cmp_le, lg_cmp_ge] at c_15
      refine g_iload_n C dX10_isThing_24 0 rfl ?_
      refine g_bipush C dX10_isThing_25 (v := 103) (by decide) ?_
      refine g_icmp_ne C dX10_isThing_27 (tgt := 37) (by decide) (fun c_27 => ?_) (fun c_27 => ?_)
      · try simp only [sa_ap, si_ap, reduceIte, Nat.reduceEqDiff, up_us, lg_cmp_lt, lg_cmp_gt, lg_cmp_le, lg_cmp_ge] at c_27
        refine g_iload_n C dX10_isThing_37 0 rfl ?_
        refine g_bipush C dX10_isThing_38 (v := 119) (by decide) ?_
        refine g_icmp_eq C dX10_isThing_40 (tgt := 55) (by decide) (fun c_40 => ?_) (fun c_40 => ?_)
        · try simp only [sa_ap, si_ap, reduceIte, Nat.reduceEqDiff, up_us, lg_cmp_lt, lg_cmp_gt, lg_cmp_le, lg_cmp_ge] at c_40
          refine g_iconst C dX10_isThing_55 (v := 1) (by decide) ?_
          refine g_goto C dX10_isThing_56 (tgt := 60) (by decide) ?_
          refine g_zretW C hr (by decide) hQ (Nat.le_refl _) (Nat.le_refl _) dX10_isThing_60 ?_
          exact ⟨(by first | with_reducible rfl | (first | with_reducible rfl | (simp only [sa_ap, si_ap, si_sa, sa_sa, sa_3, sa_4, sa_5, sa_6, sa_7, sa_8, isTh, up_us, up_up, c_3, c_15, c_27, c_40]; done) | (simp [sa_ap, si_ap, si_sa, sa_sa, sa_3, sa_4, sa_5, sa_6, sa_7, sa_8, isTh, up_us, up_up, c_3, c_15, c_27, c_40]; done))), (by first | with_reducible rfl | (first | with_reducible rfl | (simp only [sa_ap, si_ap, si_sa, sa_sa, sa_3, sa_4, sa_5, sa_6, sa_7, sa_8, isTh, up_us, up_up, c_3, c_15, c_27, c_40]; done) | (simp [sa_ap, si_ap, si_sa, sa_sa, sa_3, sa_4, sa_5, sa_6, sa_7, sa_8, isTh, up_us, up_up, c_3, c_15, c_27, c_40]; done))), rfl, rfl⟩
        · try simp only [sa_ap, si_ap, reduceIte, Nat.reduceEqDiff, up_us, lg_cmp_lt, lg_cmp_gt, lg_cmp_le, lg_cmp_ge] at c_40
          refine g_iload_n C dX10_isThing_43 0 rfl ?_
          refine g_bipush C dX10_isThing_44 (v := 108) (by decide) ?_
          refine g_icmp_eq C dX10_isThing_46 (tgt := 55) (by decide) (fun c_46 => ?_) (fun c_46 => ?_)
          · try simp only [sa_ap, si_ap, reduceIte, Nat.reduceEqDiff, up_us, lg_cmp_lt, lg_cmp_gt, lg_cmp_le, lg_cmp_ge] at c_46
            refine g_iconst C dX10_isThing_55 (v := 1) (by decide) ?_
            refine g_goto C dX10_isThing_56 (tgt := 60) (by decide) ?_
            refine g_zretW C hr (by decide) hQ (Nat.le_refl _) (Nat.le_refl _) dX10_isThing_60 ?_
            exact ⟨(by first | with_reducible rfl | (first | with_reducible rfl | (simp only [sa_ap, si_ap, si_sa, sa_sa, sa_3, sa_4, sa_5, sa_6, sa_7, sa_8, isTh, up_us, up_up, c_3, c_15, c_27, c_40, c_46]; done) | (simp [sa_ap, si_ap, si_sa, sa_sa, sa_3, sa_4, sa_5, sa_6, sa_7, sa_8, isTh, up_us, up_up, c_3, c_15, c_27, c_40, c_46]; done))), (by first | with_reducible rfl | (first | with_reducible rfl | (simp only [sa_ap, si_ap, si_sa, sa_sa, sa_3, sa_4, sa_5, sa_6, sa_7, sa_8, isTh, up_us, up_up, c_3, c_15, c_27, c_40, c_46]; done) | (simp [sa_ap, si_ap, si_sa, sa_sa, sa_3, sa_4, sa_5, sa_6, sa_7, sa_8, isTh, up_us, up_up, c_3, c_15, c_27, c_40, c_46]; done))), rfl, rfl⟩
          · try simp only [sa_ap, si_ap, reduceIte, Nat.reduceEqDiff, up_us, lg_cmp_lt, lg_cmp_gt, lg_cmp_le, lg_cmp_ge] at c_46
            refine g_iload_n C dX10_isThing_49 0 rfl ?_
            refine g_bipush C dX10_isThing_50 (v := 98) (by decide) ?_
            refine g_icmp_ne C dX10_isThing_52 (tgt := 59) (by decide) (fun c_52 => ?_) (fun c_52 => ?_)
            · try simp only [sa_ap, si_ap, reduceIte, Nat.reduceEqDiff, up_us, lg_cmp_lt, lg_cmp_gt, lg_cmp_le, lg_cmp_ge] at c_52
              refine g_iconst C dX10_isThing_59 (v := 0) (by decide) ?_
              refine g_zretW C hr (by decide) hQ (Nat.le_refl _) (Nat.le_refl _) dX10_isThing_60 ?_
              exact ⟨(by first | with_reducible rfl | (first | with_reducible rfl | (simp only [sa_ap, si_ap, si_sa, sa_sa, sa_3, sa_4, sa_5, sa_6, sa_7, sa_8, isTh, up_us, up_up, c_3, c_15, c_27, c_40, c_46, c_52]; done) | (simp [sa_ap, si_ap, si_sa, sa_sa, sa_3, sa_4, sa_5, sa_6, sa_7, sa_8, isTh, up_us, up_up, c_3, c_15, c_27, c_40, c_46, c_52]; done))), (by first | with_reducible rfl | (first | with_reducible rfl | (simp only [sa_ap, si_ap, si_sa, sa_sa, sa_3, sa_4, sa_5, sa_6, sa_7, sa_8, isTh, up_us, up_up, c_3, c_15, c_27, c_40, c_46, c_52]; done) | (simp [sa_ap, si_ap, si_sa, sa_sa, sa_3, sa_4, sa_5, sa_6, sa_7, sa_8, isTh, up_us, up_up, c_3, c_15, c_27, c_40, c_46, c_52]; done))), rfl, rfl⟩
            · try simp only [sa_ap, si_ap, reduceIte, Nat.reduceEqDiff, up_us, lg_cmp_lt, lg_cmp_gt, lg_cmp_le, lg_cmp_ge] at c_52
              refine g_iconst C dX10_isThing_55 (v := 1) (by decide) ?_
              refine g_goto C dX10_isThing_56 (tgt := 60) (by decide) ?_
              refine g_zretW C hr (by decide) hQ (Nat.le_refl _) (Nat.le_refl _) dX10_isThing_60 ?_
              exact ⟨(by first | with_reducible rfl | (first | with_reducible rfl | (simp only [sa_ap, si_ap, si_sa, sa_sa, sa_3, sa_4, sa_5, sa_6, sa_7, sa_8, isTh, up_us, up_up, c_3, c_15, c_27, c_40, c_46, c_52]; done) | (simp [sa_ap, si_ap, si_sa, sa_sa, sa_3, sa_4, sa_5, sa_6, sa_7, sa_8, isTh, up_us, up_up, c_3, c_15, c_27, c_40, c_46, c_52]; done))), (by first | with_reducible rfl | (first | with_reducible rfl | (simp only [sa_ap, si_ap, si_sa, sa_sa, sa_3, sa_4, sa_5, sa_6, sa_7, sa_8, isTh, up_us, up_up, c_3, c_15, c_27, c_40, c_46, c_52]; done) | (simp [sa_ap, si_ap, si_sa, sa_sa, sa_3, sa_4, sa_5, sa_6, sa_7, sa_8, isTh, up_us, up_up, c_3, c_15, c_27, c_40, c_46, c_52]; done))), rfl, rfl⟩
      · try simp only [sa_ap, si_ap, reduceIte, Nat.reduceEqDiff, up_us, lg_cmp_lt, lg_cmp_gt, lg_cmp_le, lg_cmp_ge] at c_27
        refine g_iload_n C dX10_isThing_30 1 rfl ?_
        refine g_bipush C dX10_isThing_31 (v := 6) (by decide) ?_
        refine g_callSiW C dX10_isThing_33 (c_X10_isBelow _ _ _ _ _ _ _ _ _ _ _) tw499 tw500 tw1 tw501 rfl ⟨by decide +kernel, by decide +kernel, rfl⟩ ⟨rfl, rfl⟩ (by rw [hR]; decide) (Nat.le_of_ble_eq_true rfl) (by rw [hR]; decide) (fun r_1 X1 M1 K1 h_2 => ?_)
        obtain ⟨er_1, hX1, hM1, hK1⟩ := h_2
        subst X1 M1 K1
        try simp only [sa_ap, si_ap, reduceIte, Nat.reduceEqDiff] at er_1
        refine g_zretW C hr (by subst er_1; exact (isBo.na (bel_bo _ _)).1) hQ (Nat.le_refl _) (Nat.le_refl _) dX10_isThing_36 ?_
        exact ⟨(by first | with_reducible rfl | (subst er_1; first | with_reducible rfl | (simp only [sa_ap, si_ap, si_sa, sa_sa, sa_3, sa_4, sa_5, sa_6, sa_7, sa_8, isTh, up_us, up_up, c_3, c_15, c_27]; done) | (simp [sa_ap, si_ap, si_sa, sa_sa, sa_3, sa_4, sa_5, sa_6, sa_7, sa_8, isTh, up_us, up_up, c_3, c_15, c_27]; done))), (by first | with_reducible rfl | (subst er_1; first | with_reducible rfl | (simp only [sa_ap, si_ap, si_sa, sa_sa, sa_3, sa_4, sa_5, sa_6, sa_7, sa_8, isTh, up_us, up_up, c_3, c_15, c_27]; done) | (simp [sa_ap, si_ap, si_sa, sa_sa, sa_3, sa_4, sa_5, sa_6, sa_7, sa_8, isTh, up_us, up_up, c_3, c_15, c_27]; done))), rfl, rfl⟩
    · try simp only [sa_ap, si_ap, reduceIte, Nat.reduceEqDiff, up_us, lg_cmp_lt, lg_cmp_gt, lg_cmp_le, lg_cmp_ge] at c_15
      refine g_iload_n C dX10_isThing_18 1 rfl ?_
      refine g_iconst C dX10_isThing_19 (v := 3) (by decide) ?_
      refine g_callSiW C dX10_isThing_20 (c_X10_isBelow _ _ _ _ _ _ _ _ _ _ _) tw499 tw500 tw1 tw501 rfl ⟨by decide +kernel, by decide +kernel, rfl⟩ ⟨rfl, rfl⟩ (by rw [hR]; decide) (Nat.le_of_ble_eq_true rfl) (by rw [hR]; decide) (fun r_3 X1 M1 K1 h_4 => ?_)
      obtain ⟨er_3, hX1, hM1, hK1⟩ := h_4
      subst X1 M1 K1
      try simp only [sa_ap, si_ap, reduceIte, Nat.reduceEqDiff] at er_3
      refine g_zretW C hr (by subst er_3; exact (isBo.na (bel_bo _ _)).1) hQ (Nat.le_refl _) (Nat.le_refl _) dX10_isThing_23 ?_
      exact ⟨(by first | with_reducible rfl | (subst er_3; first | with_reducible rfl | (simp only [sa_ap, si_ap, si_sa, sa_sa, sa_3, sa_4, sa_5, sa_6, sa_7, sa_8, isTh, up_us, up_up, c_3, c_15]; done) | (simp [sa_ap, si_ap, si_sa, sa_sa, sa_3, sa_4, sa_5, sa_6, sa_7, sa_8, isTh, up_us, up_up, c_3, c_15]; done))), (by first | with_reducible rfl | (subst er_3; first | with_reducible rfl | (simp only [sa_ap, si_ap, si_sa, sa_sa, sa_3, sa_4, sa_5, sa_6, sa_7, sa_8, isTh, up_us, up_up, c_3, c_15]; done) | (simp [sa_ap, si_ap, si_sa, sa_sa, sa_3, sa_4, sa_5, sa_6, sa_7, sa_8, isTh, up_us, up_up, c_3, c_15]; done))), rfl, rfl⟩
  · try simp only [sa_ap, si_ap, reduceIte, Nat.reduceEqDiff, up_us, lg_cmp_lt, lg_cmp_gt, lg_cmp_le, lg_cmp_ge] at c_3
    refine g_iload_n C dX10_isThing_6 1 rfl ?_
    refine g_iconst C dX10_isThing_7 (v := 3) (by decide) ?_
    refine g_callSiW C dX10_isThing_8 (c_X10_isBelow _ _ _ _ _ _ _ _ _ _ _) tw499 tw500 tw1 tw501 rfl ⟨by decide +kernel, by decide +kernel, rfl⟩ ⟨rfl, rfl⟩ (by rw [hR]; decide) (Nat.le_of_ble_eq_true rfl) (by rw [hR]; decide) (fun r_5 X1 M1 K1 h_6 => ?_)
    obtain ⟨er_5, hX1, hM1, hK1⟩ := h_6
    subst X1 M1 K1
    try simp only [sa_ap, si_ap, reduceIte, Nat.reduceEqDiff] at er_5
    refine g_zretW C hr (by subst er_5; exact (isBo.na (bel_bo _ _)).1) hQ (Nat.le_refl _) (Nat.le_refl _) dX10_isThing_11 ?_
    exact ⟨(by first | with_reducible rfl | (subst er_5; first | with_reducible rfl | (simp only [sa_ap, si_ap, si_sa, sa_sa, sa_3, sa_4, sa_5, sa_6, sa_7, sa_8, isTh, up_us, up_up, c_3]; done) | (simp [sa_ap, si_ap, si_sa, sa_sa, sa_3, sa_4, sa_5, sa_6, sa_7, sa_8, isTh, up_us, up_up, c_3]; done))), (by first | with_reducible rfl | (subst er_5; first | with_reducible rfl | (simp only [sa_ap, si_ap, si_sa, sa_sa, sa_3, sa_4, sa_5, sa_6, sa_7, sa_8, isTh, up_us, up_up, c_3]; done) | (simp [sa_ap, si_ap, si_sa, sa_sa, sa_3, sa_4, sa_5, sa_6, sa_7, sa_8, isTh, up_us, up_up, c_3]; done))), rfl, rfl⟩

set_option maxHeartbeats 400000 in
set_option maxRecDepth 100000 in
/-- valueFor.valueFor -/
theorem c_X10_valueFor (l : Launch) (D : va_G) (cy : Nat → ClassId) (A : Nat → Prop) (ad sad : Nat → Nat) (X M : XF) (K : KF) (j : Nat) (hj : j < 12) (ho : okAb (X 25 j) (X 26 j)) : Met l yX10_valueFor (wsA yX10_valueFor cX10_valueFor 4 (some .int)) ({ frames := 2, cells := 0, slots := 0, locals := 49 }) (PcW D cy A ad sad X M K [.ref (ad 0), .int (nI j)]) (QiW D cy A ad (fun r X1 M1 K1 => r = cl_val X j ∧ X1 = X ∧ M1 = M ∧ K1 = K)) 0 0 A := by
  refine met_ofW [(0, .ref (ad 0)), (1, .int (nI j))] (by decide +kernel) (Nat.le_of_ble_eq_true rfl) rfl ?_
  intro G C hl hR hL hD hcy hA had hsa hr hQ
  subst hD hcy hA had hsa hl
  refine g_aload_n C dX10_valueFor_0 0 rfl ?_
  refine gf_X10_rules C tw329 dX10_valueFor_1 ?_
  refine gf_X6_kind C tw169 dX10_valueFor_4 ?_
  refine g_iload_n C dX10_valueFor_7 1 rfl ?_
  refine al_25 C (by omega) dX10_valueFor_8 ?_
  refine g_topi rfl ?_
  refine g_istore_n C dX10_valueFor_9 (L' := [(2, .int (X 25 j)), (0, .ref (gad G 0)), (1, .int (nI j))]) rfl (by rw [hL]; decide) ?_
  refine g_aload_n C dX10_valueFor_10 1 rfl ?_
  refine gf_X10_rules C tw329 dX10_valueFor_11 ?_
  refine gf_X6_about C tw171 dX10_valueFor_14 ?_
  refine g_iload_n C dX10_valueFor_17 2 rfl ?_
  refine al_26 C (by omega) dX10_valueFor_18 ?_
  refine g_topi rfl ?_
  refine g_istore_n C dX10_valueFor_19 (L' := [(3, .int (X 26 j)), (2, .int (X 25 j)), (0, .ref (gad G 0)), (1, .int (nI j))]) rfl (by rw [hL]; decide) ?_
  refine g_iload_n C dX10_valueFor_20 1 rfl ?_
  refine g_bipush C dX10_valueFor_21 (v := 116) (by decide) ?_
  refine g_icmp_ne C dX10_valueFor_23 (tgt := 36) (by decide) (fun c_23 => ?_) (fun c_23 => ?_)
  · try simp only [sa_ap, si_ap, reduceIte, Nat.reduceEqDiff, up_us, lg_cmp_lt, lg_cmp_gt, lg_cmp_le, lg_cmp_ge] at c_23
    refine g_iload_n C dX10_valueFor_36 1 rfl ?_
    refine g_bipush C dX10_valueFor_37 (v := 115) (by decide) ?_
    refine g_icmp_ne C dX10_valueFor_39 (tgt := 51) (by decide) (fun c_39 => ?_) (fun c_39 => ?_)
    · try simp only [sa_ap, si_ap, reduceIte, Nat.reduceEqDiff, up_us, lg_cmp_lt, lg_cmp_gt, lg_cmp_le, lg_cmp_ge] at c_39
      refine g_iload_n C dX10_valueFor_51 1 rfl ?_
      refine g_bipush C dX10_valueFor_52 (v := 119) (by decide) ?_
      refine g_icmp_ne C dX10_valueFor_54 (tgt := 62) (by decide) (fun c_54 => ?_) (fun c_54 => ?_)
      · try simp only [sa_ap, si_ap, reduceIte, Nat.reduceEqDiff, up_us, lg_cmp_lt, lg_cmp_gt, lg_cmp_le, lg_cmp_ge] at c_54
        refine g_iload_n C dX10_valueFor_62 1 rfl ?_
        refine g_bipush C dX10_valueFor_63 (v := 108) (by decide) ?_
        refine g_icmp_ne C dX10_valueFor_65 (tgt := 76) (by decide) (fun c_65 => ?_) (fun c_65 => ?_)
        · try simp only [sa_ap, si_ap, reduceIte, Nat.reduceEqDiff, up_us, lg_cmp_lt, lg_cmp_gt, lg_cmp_le, lg_cmp_ge] at c_65
          refine g_iload_n C dX10_valueFor_76 1 rfl ?_
          refine g_bipush C dX10_valueFor_77 (v := 98) (by decide) ?_
          refine g_icmp_ne C dX10_valueFor_79 (tgt := 90) (by decide) (fun c_79 => ?_) (fun c_79 => ?_)
          · try simp only [sa_ap, si_ap, reduceIte, Nat.reduceEqDiff, up_us, lg_cmp_lt, lg_cmp_gt, lg_cmp_le, lg_cmp_ge] at c_79
            obtain ⟨a, ha, ea⟩ := ho.2.2 c_79 c_65 c_39 c_23 c_54
            have c_cl : (X 26 j).toNatClampNeg = a := by rw [ea]; exact nI_clamp (by omega)
            refine g_aload_n C dX10_valueFor_90 2 rfl ?_
            refine gf_X10_saysGo C tw333 dX10_valueFor_91 ?_
            refine g_iload_n C dX10_valueFor_94 0 rfl ?_
            refine g_topi ea ?_
            refine al_41 C (by omega) dX10_valueFor_95 ?_
            refine g_if_eq C dX10_valueFor_96 (tgt := 103) (by decide) (fun c_96 => ?_) (fun c_96 => ?_)
            · try simp only [sa_ap, si_ap, reduceIte, Nat.reduceEqDiff, up_us, lg_cmp_lt, lg_cmp_gt, lg_cmp_le, lg_cmp_ge] at c_96
              refine g_iconst C dX10_valueFor_103 (v := 0) (by decide) ?_
              refine g_iretW C hr hQ (Nat.le_refl _) (Nat.le_refl _) dX10_valueFor_104 ?_
              exact ⟨(by first | with_reducible rfl | (first | with_reducible rfl | (simp only [sa_ap, si_ap, si_sa, sa_sa, sa_3, sa_4, sa_5, sa_6, sa_7, sa_8, cl_val, up_us, up_up, c_23, c_39, c_54, c_65, c_79, c_cl, c_96]; done) | (simp [sa_ap, si_ap, si_sa, sa_sa, sa_3, sa_4, sa_5, sa_6, sa_7, sa_8, cl_val, up_us, up_up, c_23, c_39, c_54, c_65, c_79, c_cl, c_96]; done))), (by first | with_reducible rfl | (first | with_reducible rfl | (simp only [sa_ap, si_ap, si_sa, sa_sa, sa_3, sa_4, sa_5, sa_6, sa_7, sa_8, cl_val, up_us, up_up, c_23, c_39, c_54, c_65, c_79, c_cl, c_96]; done) | (simp [sa_ap, si_ap, si_sa, sa_sa, sa_3, sa_4, sa_5, sa_6, sa_7, sa_8, cl_val, up_us, up_up, c_23, c_39, c_54, c_65, c_79, c_cl, c_96]; done))), rfl, rfl⟩
            · try simp only [sa_ap, si_ap, reduceIte, Nat.reduceEqDiff, up_us, lg_cmp_lt, lg_cmp_gt, lg_cmp_le, lg_cmp_ge] at c_96
              refine g_iconst C dX10_valueFor_99 (v := 1) (by decide) ?_
              refine g_goto C dX10_valueFor_100 (tgt := 104) (by decide) ?_
              refine g_iretW C hr hQ (Nat.le_refl _) (Nat.le_refl _) dX10_valueFor_104 ?_
              exact ⟨(by first | with_reducible rfl | (first | with_reducible rfl | (simp only [sa_ap, si_ap, si_sa, sa_sa, sa_3, sa_4, sa_5, sa_6, sa_7, sa_8, cl_val, up_us, up_up, c_23, c_39, c_54, c_65, c_79, c_cl, c_96]; done) | (simp [sa_ap, si_ap, si_sa, sa_sa, sa_3, sa_4, sa_5, sa_6, sa_7, sa_8, cl_val, up_us, up_up, c_23, c_39, c_54, c_65, c_79, c_cl, c_96]; done))), (by first | with_reducible rfl | (first | with_reducible rfl | (simp only [sa_ap, si_ap, si_sa, sa_sa, sa_3, sa_4, sa_5, sa_6, sa_7, sa_8, cl_val, up_us, up_up, c_23, c_39, c_54, c_65, c_79, c_cl, c_96]; done) | (simp [sa_ap, si_ap, si_sa, sa_sa, sa_3, sa_4, sa_5, sa_6, sa_7, sa_8, cl_val, up_us, up_up, c_23, c_39, c_54, c_65, c_79, c_cl, c_96]; done))), rfl, rfl⟩
          · try simp only [sa_ap, si_ap, reduceIte, Nat.reduceEqDiff, up_us, lg_cmp_lt, lg_cmp_gt, lg_cmp_le, lg_cmp_ge] at c_79
            refine g_aload_n C dX10_valueFor_82 2 rfl ?_
            refine gf_X10_boats C tw328 dX10_valueFor_83 ?_
            refine g_callViW C dX10_valueFor_86 (c_X0_sumOfRisks _ _ _ _ _ _ _ _ _ ) tw695 tw696 tw697 tw7 tw698 (rv_X0 C) rfl ⟨by decide +kernel, by decide +kernel, rfl⟩ ⟨rfl, rfl⟩ (by rw [hR]; decide) (Nat.le_of_ble_eq_true rfl) (by rw [hR]; decide) (fun r_1 X1 M1 K1 h_2 => ?_)
            obtain ⟨er_1, hX1, hM1, hK1⟩ := h_2
            subst X1 M1 K1
            try simp only [sa_ap, si_ap, reduceIte, Nat.reduceEqDiff] at er_1
            refine g_iretW C hr hQ (Nat.le_refl _) (Nat.le_refl _) dX10_valueFor_89 ?_
            exact ⟨(by first | with_reducible rfl | (subst er_1; first | with_reducible rfl | (simp only [sa_ap, si_ap, si_sa, sa_sa, sa_3, sa_4, sa_5, sa_6, sa_7, sa_8, cl_val, up_us, up_up, c_23, c_39, c_54, c_65, c_79]; done) | (simp [sa_ap, si_ap, si_sa, sa_sa, sa_3, sa_4, sa_5, sa_6, sa_7, sa_8, cl_val, up_us, up_up, c_23, c_39, c_54, c_65, c_79]; done))), (by first | with_reducible rfl | (subst er_1; first | with_reducible rfl | (simp only [sa_ap, si_ap, si_sa, sa_sa, sa_3, sa_4, sa_5, sa_6, sa_7, sa_8, cl_val, up_us, up_up, c_23, c_39, c_54, c_65, c_79]; done) | (simp [sa_ap, si_ap, si_sa, sa_sa, sa_3, sa_4, sa_5, sa_6, sa_7, sa_8, cl_val, up_us, up_up, c_23, c_39, c_54, c_65, c_79]; done))), rfl, rfl⟩
        · try simp only [sa_ap, si_ap, reduceIte, Nat.reduceEqDiff, up_us, lg_cmp_lt, lg_cmp_gt, lg_cmp_le, lg_cmp_ge] at c_65
          refine g_aload_n C dX10_valueFor_68 2 rfl ?_
          refine gf_X10_lightnings C tw327 dX10_valueFor_69 ?_
          refine gf_X3_near C tw146 dX10_valueFor_72 ?_
          refine g_iretW C hr hQ (Nat.le_refl _) (Nat.le_refl _) dX10_valueFor_75 ?_
          exact ⟨(by first | with_reducible rfl | (first | with_reducible rfl | (simp only [sa_ap, si_ap, si_sa, sa_sa, sa_3, sa_4, sa_5, sa_6, sa_7, sa_8, cl_val, up_us, up_up, c_23, c_39, c_54, c_65]; done) | (simp [sa_ap, si_ap, si_sa, sa_sa, sa_3, sa_4, sa_5, sa_6, sa_7, sa_8, cl_val, up_us, up_up, c_23, c_39, c_54, c_65]; done))), (by first | with_reducible rfl | (first | with_reducible rfl | (simp only [sa_ap, si_ap, si_sa, sa_sa, sa_3, sa_4, sa_5, sa_6, sa_7, sa_8, cl_val, up_us, up_up, c_23, c_39, c_54, c_65]; done) | (simp [sa_ap, si_ap, si_sa, sa_sa, sa_3, sa_4, sa_5, sa_6, sa_7, sa_8, cl_val, up_us, up_up, c_23, c_39, c_54, c_65]; done))), rfl, rfl⟩
      · try simp only [sa_ap, si_ap, reduceIte, Nat.reduceEqDiff, up_us, lg_cmp_lt, lg_cmp_gt, lg_cmp_le, lg_cmp_ge] at c_54
        refine g_aload_n C dX10_valueFor_57 2 rfl ?_
        refine gf_X10_windNow C tw334 dX10_valueFor_58 ?_
        refine g_iretW C hr hQ (Nat.le_refl _) (Nat.le_refl _) dX10_valueFor_61 ?_
        exact ⟨(by first | with_reducible rfl | (first | with_reducible rfl | (simp only [sa_ap, si_ap, si_sa, sa_sa, sa_3, sa_4, sa_5, sa_6, sa_7, sa_8, cl_val, up_us, up_up, c_23, c_39, c_54]; done) | (simp [sa_ap, si_ap, si_sa, sa_sa, sa_3, sa_4, sa_5, sa_6, sa_7, sa_8, cl_val, up_us, up_up, c_23, c_39, c_54]; done))), (by first | with_reducible rfl | (first | with_reducible rfl | (simp only [sa_ap, si_ap, si_sa, sa_sa, sa_3, sa_4, sa_5, sa_6, sa_7, sa_8, cl_val, up_us, up_up, c_23, c_39, c_54]; done) | (simp [sa_ap, si_ap, si_sa, sa_sa, sa_3, sa_4, sa_5, sa_6, sa_7, sa_8, cl_val, up_us, up_up, c_23, c_39, c_54]; done))), rfl, rfl⟩
    · try simp only [sa_ap, si_ap, reduceIte, Nat.reduceEqDiff, up_us, lg_cmp_lt, lg_cmp_gt, lg_cmp_le, lg_cmp_ge] at c_39
      have c_k := c_39
      obtain ⟨a, ha, ea⟩ := ho.2.1 c_k
      have c_cl : (X 26 j).toNatClampNeg = a := by rw [ea]; exact nI_clamp (by omega)
      refine g_aload_n C dX10_valueFor_42 2 rfl ?_
      refine gf_X10_sensors C tw326 dX10_valueFor_43 ?_
      refine g_iload_n C dX10_valueFor_46 0 rfl ?_
      refine g_topi ea ?_
      refine g_callViW C dX10_valueFor_47 (c_X7_tellTogether _ _ _ _ _ _ _ _ _ a ha) tw649 tw650 tw651 tw5 tw652 (rv_X7 C) rfl ⟨by decide +kernel, by decide +kernel, rfl⟩ ⟨rfl, rfl⟩ (by rw [hR]; decide) (Nat.le_of_ble_eq_true rfl) (by rw [hR]; decide) (fun r_3 X1 M1 K1 h_4 => ?_)
      obtain ⟨er_3, hX1, hM1, hK1⟩ := h_4
      subst X1 M1 K1
      try simp only [sa_ap, si_ap, reduceIte, Nat.reduceEqDiff] at er_3
      refine g_iretW C hr hQ (Nat.le_refl _) (Nat.le_refl _) dX10_valueFor_50 ?_
      exact ⟨(by first | with_reducible rfl | (subst er_3; first | with_reducible rfl | (simp only [sa_ap, si_ap, si_sa, sa_sa, sa_3, sa_4, sa_5, sa_6, sa_7, sa_8, cl_val, up_us, up_up, c_23, c_39, c_k, c_cl]; done) | (simp [sa_ap, si_ap, si_sa, sa_sa, sa_3, sa_4, sa_5, sa_6, sa_7, sa_8, cl_val, up_us, up_up, c_23, c_39, c_k, c_cl]; done))), (by first | with_reducible rfl | (subst er_3; first | with_reducible rfl | (simp only [sa_ap, si_ap, si_sa, sa_sa, sa_3, sa_4, sa_5, sa_6, sa_7, sa_8, cl_val, up_us, up_up, c_23, c_39, c_k, c_cl]; done) | (simp [sa_ap, si_ap, si_sa, sa_sa, sa_3, sa_4, sa_5, sa_6, sa_7, sa_8, cl_val, up_us, up_up, c_23, c_39, c_k, c_cl]; done))), rfl, rfl⟩
  · try simp only [sa_ap, si_ap, reduceIte, Nat.reduceEqDiff, up_us, lg_cmp_lt, lg_cmp_gt, lg_cmp_le, lg_cmp_ge] at c_23
    have c_k := c_23
    obtain ⟨a, ha, ea⟩ := ho.1 c_k
    have c_cl : (X 26 j).toNatClampNeg = a := by rw [ea]; exact nI_clamp (by omega)
    refine g_aload_n C dX10_valueFor_26 2 rfl ?_
    refine gf_X10_tanks C tw323 dX10_valueFor_27 ?_
    refine gf_X9_amount C tw58 dX10_valueFor_30 ?_
    refine g_iload_n C dX10_valueFor_33 0 rfl ?_
    refine g_topi ea ?_
    refine al_5 C (by omega) dX10_valueFor_34 ?_
    refine g_iretW C hr hQ (Nat.le_refl _) (Nat.le_refl _) dX10_valueFor_35 ?_
    exact ⟨(by first | with_reducible rfl | (first | with_reducible rfl | (simp only [sa_ap, si_ap, si_sa, sa_sa, sa_3, sa_4, sa_5, sa_6, sa_7, sa_8, cl_val, up_us, up_up, c_23, c_k, c_cl]; done) | (simp [sa_ap, si_ap, si_sa, sa_sa, sa_3, sa_4, sa_5, sa_6, sa_7, sa_8, cl_val, up_us, up_up, c_23, c_k, c_cl]; done))), (by first | with_reducible rfl | (first | with_reducible rfl | (simp only [sa_ap, si_ap, si_sa, sa_sa, sa_3, sa_4, sa_5, sa_6, sa_7, sa_8, cl_val, up_us, up_up, c_23, c_k, c_cl]; done) | (simp [sa_ap, si_ap, si_sa, sa_sa, sa_3, sa_4, sa_5, sa_6, sa_7, sa_8, cl_val, up_us, up_up, c_23, c_k, c_cl]; done))), rfl, rfl⟩

set_option maxHeartbeats 400000 in
set_option maxRecDepth 100000 in
/-- isWaived.isWaived -/
theorem c_X10_isWaived (l : Launch) (D : va_G) (cy : Nat → ClassId) (A : Nat → Prop) (ad sad : Nat → Nat) (X M : XF) (K : KF) (j : Nat) (hj : j < 12) : Met l yX10_isWaived (wsA yX10_isWaived cX10_isWaived 2 (some .boolean)) ({ frames := 1, cells := 0, slots := 0, locals := 22 }) (PcW D cy A ad sad X M K [.ref (ad 0), .int (nI j)]) (QiW D cy A ad (fun r X1 M1 K1 => r = cl_iw X j ∧ X1 = X ∧ M1 = M ∧ K1 = K)) 0 0 A := by
  refine met_ofW [(0, .ref (ad 0)), (1, .int (nI j))] (by decide +kernel) (Nat.le_of_ble_eq_true rfl) rfl ?_
  intro G C hl hR hL hD hcy hA had hsa hr hQ
  subst hD hcy hA had hsa hl
  refine g_aload_n C dX10_isWaived_0 0 rfl ?_
  refine gf_X10_log C tw332 dX10_isWaived_1 ?_
  refine gf_X4_state C tw314 dX10_isWaived_4 ?_
  refine g_bipush C dX10_isWaived_7 (v := 45) (by decide) ?_
  refine g_icmp_eq C dX10_isWaived_9 (tgt := 34) (by decide) (fun c_9 => ?_) (fun c_9 => ?_)
  · try simp only [sa_ap, si_ap, reduceIte, Nat.reduceEqDiff, up_us, lg_cmp_lt, lg_cmp_gt, lg_cmp_le, lg_cmp_ge] at c_9
    refine g_iconst C dX10_isWaived_34 (v := 0) (by decide) ?_
    refine g_zretW C hr (by decide) hQ (Nat.le_refl _) (Nat.le_refl _) dX10_isWaived_35 ?_
    exact ⟨(by first | with_reducible rfl | (first | with_reducible rfl | (simp only [sa_ap, si_ap, si_sa, sa_sa, sa_3, sa_4, sa_5, sa_6, sa_7, sa_8, cl_iw, up_us, up_up, c_9]; done) | (simp [sa_ap, si_ap, si_sa, sa_sa, sa_3, sa_4, sa_5, sa_6, sa_7, sa_8, cl_iw, up_us, up_up, c_9]; done))), (by first | with_reducible rfl | (first | with_reducible rfl | (simp only [sa_ap, si_ap, si_sa, sa_sa, sa_3, sa_4, sa_5, sa_6, sa_7, sa_8, cl_iw, up_us, up_up, c_9]; done) | (simp [sa_ap, si_ap, si_sa, sa_sa, sa_3, sa_4, sa_5, sa_6, sa_7, sa_8, cl_iw, up_us, up_up, c_9]; done))), rfl, rfl⟩
  · try simp only [sa_ap, si_ap, reduceIte, Nat.reduceEqDiff, up_us, lg_cmp_lt, lg_cmp_gt, lg_cmp_le, lg_cmp_ge] at c_9
    refine g_aload_n C dX10_isWaived_12 0 rfl ?_
    refine gf_X10_rules C tw329 dX10_isWaived_13 ?_
    refine g_iload_n C dX10_isWaived_16 1 rfl ?_
    refine g_aload_n C dX10_isWaived_17 0 rfl ?_
    refine gf_X10_countdown C tw330 dX10_isWaived_18 ?_
    refine gf_X1_at C tw216 dX10_isWaived_21 ?_
    refine g_callViW C dX10_isWaived_24 (c_X6_isWaivedAt _ _ _ _ _ _ _ _ _ j hj _) tw732 tw733 tw734 tw8 tw735 (rv_X6 C) rfl ⟨by decide +kernel, by decide +kernel, rfl⟩ ⟨rfl, rfl⟩ (by rw [hR]; decide) (Nat.le_of_ble_eq_true rfl) (by rw [hR]; decide) (fun r_1 X1 M1 K1 h_2 => ?_)
    obtain ⟨er_1, hX1, hM1, hK1⟩ := h_2
    subst X1 M1 K1
    try simp only [sa_ap, si_ap, reduceIte, Nat.reduceEqDiff] at er_1
    refine g_if_eq C dX10_isWaived_27 (tgt := 34) (by decide) (fun c_27 => ?_) (fun c_27 => ?_)
    · try simp only [sa_ap, si_ap, reduceIte, Nat.reduceEqDiff, up_us, lg_cmp_lt, lg_cmp_gt, lg_cmp_le, lg_cmp_ge] at c_27
      refine g_iconst C dX10_isWaived_34 (v := 0) (by decide) ?_
      refine g_zretW C hr (by decide) hQ (Nat.le_refl _) (Nat.le_refl _) dX10_isWaived_35 ?_
      exact ⟨(by first | with_reducible rfl | (subst er_1; first | with_reducible rfl | (simp only [sa_ap, si_ap, si_sa, sa_sa, sa_3, sa_4, sa_5, sa_6, sa_7, sa_8, cl_iw, up_us, up_up, c_9, c_27]; done) | (simp [sa_ap, si_ap, si_sa, sa_sa, sa_3, sa_4, sa_5, sa_6, sa_7, sa_8, cl_iw, up_us, up_up, c_9, c_27]; done))), (by first | with_reducible rfl | (subst er_1; first | with_reducible rfl | (simp only [sa_ap, si_ap, si_sa, sa_sa, sa_3, sa_4, sa_5, sa_6, sa_7, sa_8, cl_iw, up_us, up_up, c_9, c_27]; done) | (simp [sa_ap, si_ap, si_sa, sa_sa, sa_3, sa_4, sa_5, sa_6, sa_7, sa_8, cl_iw, up_us, up_up, c_9, c_27]; done))), rfl, rfl⟩
    · try simp only [sa_ap, si_ap, reduceIte, Nat.reduceEqDiff, up_us, lg_cmp_lt, lg_cmp_gt, lg_cmp_le, lg_cmp_ge] at c_27
      refine g_iconst C dX10_isWaived_30 (v := 1) (by decide) ?_
      refine g_goto C dX10_isWaived_31 (tgt := 35) (by decide) ?_
      refine g_zretW C hr (by decide) hQ (Nat.le_refl _) (Nat.le_refl _) dX10_isWaived_35 ?_
      exact ⟨(by first | with_reducible rfl | (subst er_1; first | with_reducible rfl | (simp only [sa_ap, si_ap, si_sa, sa_sa, sa_3, sa_4, sa_5, sa_6, sa_7, sa_8, cl_iw, up_us, up_up, c_9, c_27]; done) | (simp [sa_ap, si_ap, si_sa, sa_sa, sa_3, sa_4, sa_5, sa_6, sa_7, sa_8, cl_iw, up_us, up_up, c_9, c_27]; done))), (by first | with_reducible rfl | (subst er_1; first | with_reducible rfl | (simp only [sa_ap, si_ap, si_sa, sa_sa, sa_3, sa_4, sa_5, sa_6, sa_7, sa_8, cl_iw, up_us, up_up, c_9, c_27]; done) | (simp [sa_ap, si_ap, si_sa, sa_sa, sa_3, sa_4, sa_5, sa_6, sa_7, sa_8, cl_iw, up_us, up_up, c_9, c_27]; done))), rfl, rfl⟩

set_option maxHeartbeats 400000 in
set_option maxRecDepth 100000 in
/-- isMetOrWaived.isMetOrWaived -/
theorem c_X10_isMetOrWaived (l : Launch) (D : va_G) (cy : Nat → ClassId) (A : Nat → Prop) (ad sad : Nat → Nat) (X M : XF) (K : KF) (j : Nat) (hj : j < 12) (ho : okAb (X 25 j) (X 26 j)) : Met l yX10_isMetOrWaived (wsA yX10_isMetOrWaived cX10_isMetOrWaived 2 (some .boolean)) ({ frames := 3, cells := 0, slots := 0, locals := 72 }) (PcW D cy A ad sad X M K [.ref (ad 0), .int (nI j)]) (QiW D cy A ad (fun r X1 M1 K1 => r = cl_met X j ∧ X1 = X ∧ M1 = M ∧ K1 = K)) 0 0 A := by
  refine met_ofW [(0, .ref (ad 0)), (1, .int (nI j))] (by decide +kernel) (Nat.le_of_ble_eq_true rfl) rfl ?_
  intro G C hl hR hL hD hcy hA had hsa hr hQ
  subst hD hcy hA had hsa hl
  refine g_aload_n C dX10_isMetOrWaived_0 0 rfl ?_
  refine gf_X10_rules C tw329 dX10_isMetOrWaived_1 ?_
  refine g_iload_n C dX10_isMetOrWaived_4 1 rfl ?_
  refine g_aload_n C dX10_isMetOrWaived_5 0 rfl ?_
  refine g_iload_n C dX10_isMetOrWaived_6 1 rfl ?_
  refine g_callViW C dX10_isMetOrWaived_7 (c_X10_valueFor _ _ _ _ _ _ _ _ _ j hj ho) tw922 tw924 tp8 tw1 tw925 (rv_X10 C) rfl ⟨by decide +kernel, by decide +kernel, rfl⟩ ⟨rfl, rfl⟩ (by rw [hR]; decide) (Nat.le_of_ble_eq_true rfl) (by rw [hR]; decide) (fun r_1 X1 M1 K1 h_2 => ?_)
  obtain ⟨er_1, hX1, hM1, hK1⟩ := h_2
  subst X1 M1 K1
  try simp only [sa_ap, si_ap, reduceIte, Nat.reduceEqDiff] at er_1
  refine g_callViW C dX10_isMetOrWaived_10 (c_X6_isMetBy _ _ _ _ _ _ _ _ _ j hj _) tw1049 tw943 tw944 tw8 tw945 (rv_X6 C) rfl ⟨by decide +kernel, by decide +kernel, rfl⟩ ⟨rfl, rfl⟩ (by rw [hR]; decide) (Nat.le_of_ble_eq_true rfl) (by rw [hR]; decide) (fun r_3 X1 M1 K1 h_4 => ?_)
  obtain ⟨er_3, hX1, hM1, hK1⟩ := h_4
  subst X1 M1 K1
  try simp only [sa_ap, si_ap, reduceIte, Nat.reduceEqDiff] at er_3
  refine g_if_ne C dX10_isMetOrWaived_13 (tgt := 24) (by decide) (fun c_13 => ?_) (fun c_13 => ?_)
  · try simp only [sa_ap, si_ap, reduceIte, Nat.reduceEqDiff, up_us, lg_cmp_lt, lg_cmp_gt, lg_cmp_le, lg_cmp_ge] at c_13
    refine g_iconst C dX10_isMetOrWaived_24 (v := 1) (by decide) ?_
    refine g_goto C dX10_isMetOrWaived_25 (tgt := 29) (by decide) ?_
    refine g_zretW C hr (by decide) hQ (Nat.le_refl _) (Nat.le_refl _) dX10_isMetOrWaived_29 ?_
    exact ⟨(by first | with_reducible rfl | (subst er_1 er_3; first | with_reducible rfl | (simp only [sa_ap, si_ap, si_sa, sa_sa, sa_3, sa_4, sa_5, sa_6, sa_7, sa_8, cl_met, up_us, up_up, c_13]; done) | (simp [sa_ap, si_ap, si_sa, sa_sa, sa_3, sa_4, sa_5, sa_6, sa_7, sa_8, cl_met, up_us, up_up, c_13]; done))), (by first | with_reducible rfl | (subst er_1 er_3; first | with_reducible rfl | (simp only [sa_ap, si_ap, si_sa, sa_sa, sa_3, sa_4, sa_5, sa_6, sa_7, sa_8, cl_met, up_us, up_up, c_13]; done) | (simp [sa_ap, si_ap, si_sa, sa_sa, sa_3, sa_4, sa_5, sa_6, sa_7, sa_8, cl_met, up_us, up_up, c_13]; done))), rfl, rfl⟩
  · try simp only [sa_ap, si_ap, reduceIte, Nat.reduceEqDiff, up_us, lg_cmp_lt, lg_cmp_gt, lg_cmp_le, lg_cmp_ge] at c_13
    refine g_aload_n C dX10_isMetOrWaived_16 0 rfl ?_
    refine g_iload_n C dX10_isMetOrWaived_17 1 rfl ?_
    refine g_callViW C dX10_isMetOrWaived_18 (c_X10_isWaived _ _ _ _ _ _ _ _ _ j hj) tw728 tw730 tp6 tw1 tw731 (rv_X10 C) rfl ⟨by decide +kernel, by decide +kernel, rfl⟩ ⟨rfl, rfl⟩ (by rw [hR]; decide) (Nat.le_of_ble_eq_true rfl) (by rw [hR]; decide) (fun r_5 X1 M1 K1 h_6 => ?_)
    obtain ⟨er_5, hX1, hM1, hK1⟩ := h_6
    subst X1 M1 K1
    try simp only [sa_ap, si_ap, reduceIte, Nat.reduceEqDiff] at er_5
    refine g_if_eq C dX10_isMetOrWaived_21 (tgt := 28) (by decide) (fun c_21 => ?_) (fun c_21 => ?_)
    · try simp only [sa_ap, si_ap, reduceIte, Nat.reduceEqDiff, up_us, lg_cmp_lt, lg_cmp_gt, lg_cmp_le, lg_cmp_ge] at c_21
      refine g_iconst C dX10_isMetOrWaived_28 (v := 0) (by decide) ?_
      refine g_zretW C hr (by decide) hQ (Nat.le_refl _) (Nat.le_refl _) dX10_isMetOrWaived_29 ?_
      exact ⟨(by first | with_reducible rfl | (subst er_1 er_3 er_5; first | with_reducible rfl | (simp only [sa_ap, si_ap, si_sa, sa_sa, sa_3, sa_4, sa_5, sa_6, sa_7, sa_8, cl_met, up_us, up_up, c_13, c_21]; done) | (simp [sa_ap, si_ap, si_sa, sa_sa, sa_3, sa_4, sa_5, sa_6, sa_7, sa_8, cl_met, up_us, up_up, c_13, c_21]; done))), (by first | with_reducible rfl | (subst er_1 er_3 er_5; first | with_reducible rfl | (simp only [sa_ap, si_ap, si_sa, sa_sa, sa_3, sa_4, sa_5, sa_6, sa_7, sa_8, cl_met, up_us, up_up, c_13, c_21]; done) | (simp [sa_ap, si_ap, si_sa, sa_sa, sa_3, sa_4, sa_5, sa_6, sa_7, sa_8, cl_met, up_us, up_up, c_13, c_21]; done))), rfl, rfl⟩
    · try simp only [sa_ap, si_ap, reduceIte, Nat.reduceEqDiff, up_us, lg_cmp_lt, lg_cmp_gt, lg_cmp_le, lg_cmp_ge] at c_21
      refine g_iconst C dX10_isMetOrWaived_24 (v := 1) (by decide) ?_
      refine g_goto C dX10_isMetOrWaived_25 (tgt := 29) (by decide) ?_
      refine g_zretW C hr (by decide) hQ (Nat.le_refl _) (Nat.le_refl _) dX10_isMetOrWaived_29 ?_
      exact ⟨(by first | with_reducible rfl | (subst er_1 er_3 er_5; first | with_reducible rfl | (simp only [sa_ap, si_ap, si_sa, sa_sa, sa_3, sa_4, sa_5, sa_6, sa_7, sa_8, cl_met, up_us, up_up, c_13, c_21]; done) | (simp [sa_ap, si_ap, si_sa, sa_sa, sa_3, sa_4, sa_5, sa_6, sa_7, sa_8, cl_met, up_us, up_up, c_13, c_21]; done))), (by first | with_reducible rfl | (subst er_1 er_3 er_5; first | with_reducible rfl | (simp only [sa_ap, si_ap, si_sa, sa_sa, sa_3, sa_4, sa_5, sa_6, sa_7, sa_8, cl_met, up_us, up_up, c_13, c_21]; done) | (simp [sa_ap, si_ap, si_sa, sa_sa, sa_3, sa_4, sa_5, sa_6, sa_7, sa_8, cl_met, up_us, up_up, c_13, c_21]; done))), rfl, rfl⟩

set_option maxHeartbeats 400000 in
set_option maxRecDepth 100000 in
/-- setTank.setTank -/
theorem c_X10_setTank (l : Launch) (D : va_G) (cy : Nat → ClassId) (A : Nat → Prop) (ad sad : Nat → Nat) (X M : XF) (K : KF) (p1 p2 p3 p4 : Int32) (hst : l.stackTraces = false) : vx_Met l yX10_setTank (wsA yX10_setTank cX10_setTank 5 (some .int)) ({ frames := 6, cells := 1, slots := 6, locals := 82 }) (PcW D cy A ad sad X M K [.ref (ad 0), .int p1, .int p2, .int p3, .int p4]) (QiW D cy A ad (fun r X1 M1 K1 => xk_tank p1 p2 p3 p4 = 0 ∧ r = tk_min (X 5 p1.toNatClampNeg) p2 ∧ X1 = sa (sa (sa (sa X 2 (upd (X 2) p1.toNatClampNeg p2)) 3 (upd (X 3) p1.toNatClampNeg p3)) 4 (upd (X 4) p1.toNatClampNeg p4)) 5 (upd (X 5) p1.toNatClampNeg (tk_min (X 5 p1.toNatClampNeg) p2)) ∧ M1 = M ∧ K1 = K)) (XcW D cy A ad (fun E X1 M1 K1 => ¬ xk_tank p1 p2 p3 p4 = 0 ∧ E = xn "java/lang/IllegalArgumentException" "java/lang/IllegalArgumentException" "java/lang/IllegalArgumentException" (xk_tank p1 p2 p3 p4) ∧ X1 = X ∧ M1 = M ∧ K1 = K)) 1 6 A := by
  refine vet_ofW [(0, .ref (ad 0)), (1, .int p1), (2, .int p2), (3, .int p3), (4, .int p4)] (by decide +kernel) (Nat.le_of_ble_eq_true rfl) rfl ?_
  intro G C hl hR hL hD hcy hA had hsa hr ht hQ
  subst hD hcy hA had hsa hl
  refine g_iload_n C dX10_setTank_0 1 rfl ?_
  refine g_iconst C dX10_setTank_1 (v := 3) (by decide) ?_
  refine g_callSiW C dX10_setTank_2 (c_X10_isBelow _ _ _ _ _ _ _ _ _ _ _) tw499 tw500 tw1 tw501 rfl ⟨by decide +kernel, by decide +kernel, rfl⟩ ⟨rfl, rfl⟩ (by rw [hR]; decide) (Nat.le_of_ble_eq_true rfl) (by rw [hR]; decide) (fun r_1 X1 M1 K1 h_2 => ?_)
  obtain ⟨er_1, hX1, hM1, hK1⟩ := h_2
  subst X1 M1 K1
  try simp only [sa_ap, si_ap, reduceIte, Nat.reduceEqDiff] at er_1
  refine g_if_eq C dX10_setTank_5 (tgt := 40) (by decide) (fun c_5 => ?_) (fun c_5 => ?_)
  · try simp only [sa_ap, si_ap, reduceIte, Nat.reduceEqDiff, up_us, lg_cmp_lt, lg_cmp_gt, lg_cmp_le, lg_cmp_ge] at c_5
    refine g_throwS C hst ht hQ th_103 th_ot_103 tw506 tw21 (i := 0) ⟨by decide, rfl⟩ dX10_setTank_40 dX10_setTank_43 dX10_setTank_44 dX10_setTank_46 dX10_setTank_49 (by rw [hR]; decide) (by rw [hR]; decide) (by decide) ?_
    exact ⟨(by first | with_reducible rfl | (subst er_1; first | with_reducible rfl | (simp only [sa_ap, si_ap, si_sa, sa_sa, sa_3, sa_4, sa_5, sa_6, sa_7, sa_8, xk_tank, xn, up_us, up_up, c_5]; done) | (simp [sa_ap, si_ap, si_sa, sa_sa, sa_3, sa_4, sa_5, sa_6, sa_7, sa_8, xk_tank, xn, up_us, up_up, c_5]; done))), (by first | with_reducible rfl | (subst er_1; first | with_reducible rfl | (simp only [sa_ap, si_ap, si_sa, sa_sa, sa_3, sa_4, sa_5, sa_6, sa_7, sa_8, xk_tank, xn, up_us, up_up, c_5]; done) | (simp [sa_ap, si_ap, si_sa, sa_sa, sa_3, sa_4, sa_5, sa_6, sa_7, sa_8, xk_tank, xn, up_us, up_up, c_5]; done))), (by first | with_reducible rfl | (subst er_1; first | with_reducible rfl | (simp only [sa_ap, si_ap, si_sa, sa_sa, sa_3, sa_4, sa_5, sa_6, sa_7, sa_8, xk_tank, xn, up_us, up_up, c_5]; done) | (simp [sa_ap, si_ap, si_sa, sa_sa, sa_3, sa_4, sa_5, sa_6, sa_7, sa_8, xk_tank, xn, up_us, up_up, c_5]; done))), rfl, rfl⟩
  · try simp only [sa_ap, si_ap, reduceIte, Nat.reduceEqDiff, up_us, lg_cmp_lt, lg_cmp_gt, lg_cmp_le, lg_cmp_ge] at c_5
    obtain ⟨j, hj, rfl⟩ := bel_ix (p := p1) (s := 3) (n := 3) rfl (by omega) (by rw [← er_1]; exact c_5)
    have c_clj : (nI j).toNatClampNeg = j := nI_clamp (by omega)
    refine g_iload_n C dX10_setTank_8 2 rfl ?_
    refine g_iconst C dX10_setTank_9 (v := 0) (by decide) ?_
    refine g_ldc C dX10_setTank_10 tw502 ?_
    refine g_callSiW C dX10_setTank_12 (c_X10_isWithin _ _ _ _ _ _ _ _ _ _ _ _) tw503 tw504 tw1 tw505 rfl ⟨by decide +kernel, by decide +kernel, rfl⟩ ⟨rfl, rfl⟩ (by rw [hR]; decide) (Nat.le_of_ble_eq_true rfl) (by rw [hR]; decide) (fun r_3 X1 M1 K1 h_4 => ?_)
    obtain ⟨er_3, hX1, hM1, hK1⟩ := h_4
    subst X1 M1 K1
    try simp only [sa_ap, si_ap, reduceIte, Nat.reduceEqDiff] at er_3
    refine g_if_eq C dX10_setTank_15 (tgt := 40) (by decide) (fun c_15 => ?_) (fun c_15 => ?_)
    · try simp only [sa_ap, si_ap, reduceIte, Nat.reduceEqDiff, up_us, lg_cmp_lt, lg_cmp_gt, lg_cmp_le, lg_cmp_ge] at c_15
      refine g_throwS C hst ht hQ th_103 th_ot_103 tw506 tw21 (i := 0) ⟨by decide, rfl⟩ dX10_setTank_40 dX10_setTank_43 dX10_setTank_44 dX10_setTank_46 dX10_setTank_49 (by rw [hR]; decide) (by rw [hR]; decide) (by decide) ?_
      exact ⟨(by first | with_reducible rfl | (subst er_1 er_3; first | with_reducible rfl | (simp only [sa_ap, si_ap, si_sa, sa_sa, sa_3, sa_4, sa_5, sa_6, sa_7, sa_8, xk_tank, xn, up_us, up_up, c_5, c_clj, c_15]; done) | (simp [sa_ap, si_ap, si_sa, sa_sa, sa_3, sa_4, sa_5, sa_6, sa_7, sa_8, xk_tank, xn, up_us, up_up, c_5, c_clj, c_15]; done))), (by first | with_reducible rfl | (subst er_1 er_3; first | with_reducible rfl | (simp only [sa_ap, si_ap, si_sa, sa_sa, sa_3, sa_4, sa_5, sa_6, sa_7, sa_8, xk_tank, xn, up_us, up_up, c_5, c_clj, c_15]; done) | (simp [sa_ap, si_ap, si_sa, sa_sa, sa_3, sa_4, sa_5, sa_6, sa_7, sa_8, xk_tank, xn, up_us, up_up, c_5, c_clj, c_15]; done))), (by first | with_reducible rfl | (subst er_1 er_3; first | with_reducible rfl | (simp only [sa_ap, si_ap, si_sa, sa_sa, sa_3, sa_4, sa_5, sa_6, sa_7, sa_8, xk_tank, xn, up_us, up_up, c_5, c_clj, c_15]; done) | (simp [sa_ap, si_ap, si_sa, sa_sa, sa_3, sa_4, sa_5, sa_6, sa_7, sa_8, xk_tank, xn, up_us, up_up, c_5, c_clj, c_15]; done))), rfl, rfl⟩
    · try simp only [sa_ap, si_ap, reduceIte, Nat.reduceEqDiff, up_us, lg_cmp_lt, lg_cmp_gt, lg_cmp_le, lg_cmp_ge] at c_15
      refine g_iload_n C dX10_setTank_18 3 rfl ?_
      refine g_iconst C dX10_setTank_19 (v := 0) (by decide) ?_
      refine g_sipush C dX10_setTank_20 (v := 1000) (by decide) ?_
      refine g_callSiW C dX10_setTank_23 (c_X10_isWithin _ _ _ _ _ _ _ _ _ _ _ _) tw503 tw504 tw1 tw505 rfl ⟨by decide +kernel, by decide +kernel, rfl⟩ ⟨rfl, rfl⟩ (by rw [hR]; decide) (Nat.le_of_ble_eq_true rfl) (by rw [hR]; decide) (fun r_5 X1 M1 K1 h_6 => ?_)
      obtain ⟨er_5, hX1, hM1, hK1⟩ := h_6
      subst X1 M1 K1
      try simp only [sa_ap, si_ap, reduceIte, Nat.reduceEqDiff] at er_5
      refine g_if_eq C dX10_setTank_26 (tgt := 40) (by decide) (fun c_26 => ?_) (fun c_26 => ?_)
      · try simp only [sa_ap, si_ap, reduceIte, Nat.reduceEqDiff, up_us, lg_cmp_lt, lg_cmp_gt, lg_cmp_le, lg_cmp_ge] at c_26
        refine g_throwS C hst ht hQ th_103 th_ot_103 tw506 tw21 (i := 0) ⟨by decide, rfl⟩ dX10_setTank_40 dX10_setTank_43 dX10_setTank_44 dX10_setTank_46 dX10_setTank_49 (by rw [hR]; decide) (by rw [hR]; decide) (by decide) ?_
        exact ⟨(by first | with_reducible rfl | (subst er_1 er_3 er_5; first | with_reducible rfl | (simp only [sa_ap, si_ap, si_sa, sa_sa, sa_3, sa_4, sa_5, sa_6, sa_7, sa_8, xk_tank, xn, up_us, up_up, c_5, c_clj, c_15, c_26]; done) | (simp [sa_ap, si_ap, si_sa, sa_sa, sa_3, sa_4, sa_5, sa_6, sa_7, sa_8, xk_tank, xn, up_us, up_up, c_5, c_clj, c_15, c_26]; done))), (by first | with_reducible rfl | (subst er_1 er_3 er_5; first | with_reducible rfl | (simp only [sa_ap, si_ap, si_sa, sa_sa, sa_3, sa_4, sa_5, sa_6, sa_7, sa_8, xk_tank, xn, up_us, up_up, c_5, c_clj, c_15, c_26]; done) | (simp [sa_ap, si_ap, si_sa, sa_sa, sa_3, sa_4, sa_5, sa_6, sa_7, sa_8, xk_tank, xn, up_us, up_up, c_5, c_clj, c_15, c_26]; done))), (by first | with_reducible rfl | (subst er_1 er_3 er_5; first | with_reducible rfl | (simp only [sa_ap, si_ap, si_sa, sa_sa, sa_3, sa_4, sa_5, sa_6, sa_7, sa_8, xk_tank, xn, up_us, up_up, c_5, c_clj, c_15, c_26]; done) | (simp [sa_ap, si_ap, si_sa, sa_sa, sa_3, sa_4, sa_5, sa_6, sa_7, sa_8, xk_tank, xn, up_us, up_up, c_5, c_clj, c_15, c_26]; done))), rfl, rfl⟩
      · try simp only [sa_ap, si_ap, reduceIte, Nat.reduceEqDiff, up_us, lg_cmp_lt, lg_cmp_gt, lg_cmp_le, lg_cmp_ge] at c_26
        refine g_iload C dX10_setTank_29 4 rfl ?_
        refine g_iconst C dX10_setTank_31 (v := 0) (by decide) ?_
        refine g_bipush C dX10_setTank_32 (v := 100) (by decide) ?_
        refine g_callSiW C dX10_setTank_34 (c_X10_isWithin _ _ _ _ _ _ _ _ _ _ _ _) tw503 tw504 tw1 tw505 rfl ⟨by decide +kernel, by decide +kernel, rfl⟩ ⟨rfl, rfl⟩ (by rw [hR]; decide) (Nat.le_of_ble_eq_true rfl) (by rw [hR]; decide) (fun r_7 X1 M1 K1 h_8 => ?_)
        obtain ⟨er_7, hX1, hM1, hK1⟩ := h_8
        subst X1 M1 K1
        try simp only [sa_ap, si_ap, reduceIte, Nat.reduceEqDiff] at er_7
        refine g_if_ne C dX10_setTank_37 (tgt := 50) (by decide) (fun c_37 => ?_) (fun c_37 => ?_)
        · try simp only [sa_ap, si_ap, reduceIte, Nat.reduceEqDiff, up_us, lg_cmp_lt, lg_cmp_gt, lg_cmp_le, lg_cmp_ge] at c_37
          refine g_aload_n C dX10_setTank_50 0 rfl ?_
          refine gf_X10_tanks C tw323 dX10_setTank_51 ?_
          refine g_iload_n C dX10_setTank_54 1 rfl ?_
          refine g_iload_n C dX10_setTank_55 2 rfl ?_
          refine g_iload_n C dX10_setTank_56 3 rfl ?_
          refine g_iload C dX10_setTank_57 4 rfl ?_
          refine g_callViW C dX10_setTank_59 (c_X9_define _ _ _ _ _ _ _ _ _ j (by omega) _ _ _) tw522 tw523 tw524 tw2 tw525 (rv_X9 C) rfl ⟨by decide +kernel, by decide +kernel, rfl⟩ ⟨rfl, rfl⟩ (by rw [hR]; decide) (Nat.le_of_ble_eq_true rfl) (by rw [hR]; decide) (fun r_9 X1 M1 K1 h_10 => ?_)
          obtain ⟨er_9, hX1, hM1, hK1⟩ := h_10
          subst X1 M1 K1
          try simp only [sa_ap, si_ap, reduceIte, Nat.reduceEqDiff] at er_9
          refine g_iretWX C hr hQ (by decide) (by decide) dX10_setTank_62 ?_
          exact ⟨(by first | with_reducible rfl | (subst er_1 er_3 er_5 er_7 er_9; first | with_reducible rfl | (simp only [sa_ap, si_ap, si_sa, sa_sa, sa_3, sa_4, sa_5, sa_6, sa_7, sa_8, xk_tank, xn, up_us, up_up, c_5, c_clj, c_15, c_26, c_37]; done) | (simp [sa_ap, si_ap, si_sa, sa_sa, sa_3, sa_4, sa_5, sa_6, sa_7, sa_8, xk_tank, xn, up_us, up_up, c_5, c_clj, c_15, c_26, c_37]; done))), (by first | with_reducible rfl | (subst er_1 er_3 er_5 er_7 er_9; first | with_reducible rfl | (simp only [sa_ap, si_ap, si_sa, sa_sa, sa_3, sa_4, sa_5, sa_6, sa_7, sa_8, xk_tank, xn, up_us, up_up, c_5, c_clj, c_15, c_26, c_37]; done) | (simp [sa_ap, si_ap, si_sa, sa_sa, sa_3, sa_4, sa_5, sa_6, sa_7, sa_8, xk_tank, xn, up_us, up_up, c_5, c_clj, c_15, c_26, c_37]; done))), (by first | with_reducible rfl | (subst er_1 er_3 er_5 er_7 er_9; first | with_reducible rfl | (simp only [sa_ap, si_ap, si_sa, sa_sa, sa_3, sa_4, sa_5, sa_6, sa_7, sa_8, xk_tank, xn, up_us, up_up, c_5, c_clj, c_15, c_26, c_37]; done) | (simp [sa_ap, si_ap, si_sa, sa_sa, sa_3, sa_4, sa_5, sa_6, sa_7, sa_8, xk_tank, xn, up_us, up_up, c_5, c_clj, c_15, c_26, c_37]; done))), rfl, rfl⟩
        · try simp only [sa_ap, si_ap, reduceIte, Nat.reduceEqDiff, up_us, lg_cmp_lt, lg_cmp_gt, lg_cmp_le, lg_cmp_ge] at c_37
          refine g_throwS C hst ht hQ th_103 th_ot_103 tw506 tw21 (i := 0) ⟨by decide, rfl⟩ dX10_setTank_40 dX10_setTank_43 dX10_setTank_44 dX10_setTank_46 dX10_setTank_49 (by rw [hR]; decide) (by rw [hR]; decide) (by decide) ?_
          exact ⟨(by first | with_reducible rfl | (subst er_1 er_3 er_5 er_7; first | with_reducible rfl | (simp only [sa_ap, si_ap, si_sa, sa_sa, sa_3, sa_4, sa_5, sa_6, sa_7, sa_8, xk_tank, xn, up_us, up_up, c_5, c_clj, c_15, c_26, c_37]; done) | (simp [sa_ap, si_ap, si_sa, sa_sa, sa_3, sa_4, sa_5, sa_6, sa_7, sa_8, xk_tank, xn, up_us, up_up, c_5, c_clj, c_15, c_26, c_37]; done))), (by first | with_reducible rfl | (subst er_1 er_3 er_5 er_7; first | with_reducible rfl | (simp only [sa_ap, si_ap, si_sa, sa_sa, sa_3, sa_4, sa_5, sa_6, sa_7, sa_8, xk_tank, xn, up_us, up_up, c_5, c_clj, c_15, c_26, c_37]; done) | (simp [sa_ap, si_ap, si_sa, sa_sa, sa_3, sa_4, sa_5, sa_6, sa_7, sa_8, xk_tank, xn, up_us, up_up, c_5, c_clj, c_15, c_26, c_37]; done))), (by first | with_reducible rfl | (subst er_1 er_3 er_5 er_7; first | with_reducible rfl | (simp only [sa_ap, si_ap, si_sa, sa_sa, sa_3, sa_4, sa_5, sa_6, sa_7, sa_8, xk_tank, xn, up_us, up_up, c_5, c_clj, c_15, c_26, c_37]; done) | (simp [sa_ap, si_ap, si_sa, sa_sa, sa_3, sa_4, sa_5, sa_6, sa_7, sa_8, xk_tank, xn, up_us, up_up, c_5, c_clj, c_15, c_26, c_37]; done))), rfl, rfl⟩

set_option maxHeartbeats 400000 in
set_option maxRecDepth 100000 in
/-- setValve.setValve -/
theorem c_X10_setValve (l : Launch) (D : va_G) (cy : Nat → ClassId) (A : Nat → Prop) (ad sad : Nat → Nat) (X M : XF) (K : KF) (p1 p2 : Int32) (h2 : isBo p2) (hb : ∀ i : Nat, isBo (X 6 i)) (hst : l.stackTraces = false) : vx_Met l yX10_setValve (wsA yX10_setValve cX10_setValve 4 (some .boolean)) ({ frames := 6, cells := 1, slots := 6, locals := 82 }) (PcW D cy A ad sad X M K [.ref (ad 0), .int p1, .int p2]) (QiW D cy A ad (fun r X1 M1 K1 => xk_b p1 3 = 0 ∧ r = X 6 p1.toNatClampNeg ∧ X1 = sa X 6 (upd (X 6) p1.toNatClampNeg p2) ∧ M1 = M ∧ K1 = K)) (XcW D cy A ad (fun E X1 M1 K1 => ¬ xk_b p1 3 = 0 ∧ E = xn "java/lang/IllegalArgumentException" "java/lang/IllegalArgumentException" "java/lang/IllegalArgumentException" (xk_b p1 3) ∧ X1 = X ∧ M1 = M ∧ K1 = K)) 1 6 A := by
  refine vet_ofW [(0, .ref (ad 0)), (1, .int p1), (2, .int p2)] (by decide +kernel) (Nat.le_of_ble_eq_true rfl) rfl ?_
  intro G C hl hR hL hD hcy hA had hsa hr ht hQ
  subst hD hcy hA had hsa hl
  refine g_iload_n C dX10_setValve_0 1 rfl ?_
  refine g_iconst C dX10_setValve_1 (v := 3) (by decide) ?_
  refine g_callSiW C dX10_setValve_2 (c_X10_isBelow _ _ _ _ _ _ _ _ _ _ _) tw499 tw500 tw1 tw501 rfl ⟨by decide +kernel, by decide +kernel, rfl⟩ ⟨rfl, rfl⟩ (by rw [hR]; decide) (Nat.le_of_ble_eq_true rfl) (by rw [hR]; decide) (fun r_1 X1 M1 K1 h_2 => ?_)
  obtain ⟨er_1, hX1, hM1, hK1⟩ := h_2
  subst X1 M1 K1
  try simp only [sa_ap, si_ap, reduceIte, Nat.reduceEqDiff] at er_1
  refine g_if_ne C dX10_setValve_5 (tgt := 18) (by decide) (fun c_5 => ?_) (fun c_5 => ?_)
  · try simp only [sa_ap, si_ap, reduceIte, Nat.reduceEqDiff, up_us, lg_cmp_lt, lg_cmp_gt, lg_cmp_le, lg_cmp_ge] at c_5
    obtain ⟨j, hj, rfl⟩ := bel_ix (p := p1) (s := 3) (n := 3) rfl (by omega) (by rw [← er_1]; exact c_5)
    have c_clj : (nI j).toNatClampNeg = j := nI_clamp (by omega)
    refine g_aload_n C dX10_setValve_18 0 rfl ?_
    refine gf_X10_tanks C tw323 dX10_setValve_19 ?_
    refine gf_X9_isOpen C tw60 dX10_setValve_22 ?_
    refine g_iload_n C dX10_setValve_25 1 rfl ?_
    refine al_6 C (by omega) dX10_setValve_26 ?_
    refine g_topi rfl ?_
    refine g_istore_n C dX10_setValve_27 (L' := [(3, .int (X 6 j)), (0, .ref (gad G 0)), (1, .int (nI j)), (2, .int p2)]) rfl (by rw [hL]; decide) ?_
    refine g_aload_n C dX10_setValve_28 1 rfl ?_
    refine gf_X10_tanks C tw323 dX10_setValve_29 ?_
    refine gf_X9_isOpen C tw60 dX10_setValve_32 ?_
    refine g_iload_n C dX10_setValve_35 2 rfl ?_
    refine g_iload_n C dX10_setValve_36 3 rfl ?_
    refine as_6 C (by first | exact isBo_0 | exact isBo_1 | assumption) (by omega) dX10_setValve_37 ?_
    refine g_iload_n C dX10_setValve_38 0 rfl ?_
    refine g_zretWX C hr (isBo.na (hb _)).1 hQ (by decide) (by decide) dX10_setValve_39 ?_
    exact ⟨(by first | with_reducible rfl | (subst er_1; first | with_reducible rfl | (simp only [sa_ap, si_ap, si_sa, sa_sa, sa_3, sa_4, sa_5, sa_6, sa_7, sa_8, xk_b, xn, up_us, up_up, c_5, c_clj]; done) | (simp [sa_ap, si_ap, si_sa, sa_sa, sa_3, sa_4, sa_5, sa_6, sa_7, sa_8, xk_b, xn, up_us, up_up, c_5, c_clj]; done))), (by first | with_reducible rfl | (subst er_1; first | with_reducible rfl | (simp only [sa_ap, si_ap, si_sa, sa_sa, sa_3, sa_4, sa_5, sa_6, sa_7, sa_8, xk_b, xn, up_us, up_up, c_5, c_clj]; done) | (simp [sa_ap, si_ap, si_sa, sa_sa, sa_3, sa_4, sa_5, sa_6, sa_7, sa_8, xk_b, xn, up_us, up_up, c_5, c_clj]; done))), (by first | with_reducible rfl | (subst er_1; first | with_reducible rfl | (simp only [sa_ap, si_ap, si_sa, sa_sa, sa_3, sa_4, sa_5, sa_6, sa_7, sa_8, xk_b, xn, up_us, up_up, c_5, c_clj]; done) | (simp [sa_ap, si_ap, si_sa, sa_sa, sa_3, sa_4, sa_5, sa_6, sa_7, sa_8, xk_b, xn, up_us, up_up, c_5, c_clj]; done))), rfl, rfl⟩
  · try simp only [sa_ap, si_ap, reduceIte, Nat.reduceEqDiff, up_us, lg_cmp_lt, lg_cmp_gt, lg_cmp_le, lg_cmp_ge] at c_5
    refine g_throwS C hst ht hQ th_103 th_ot_103 tw506 tw21 (i := 1) ⟨by decide, rfl⟩ dX10_setValve_8 dX10_setValve_11 dX10_setValve_12 dX10_setValve_14 dX10_setValve_17 (by rw [hR]; decide) (by rw [hR]; decide) (by decide) ?_
    exact ⟨(by first | with_reducible rfl | (subst er_1; first | with_reducible rfl | (simp only [sa_ap, si_ap, si_sa, sa_sa, sa_3, sa_4, sa_5, sa_6, sa_7, sa_8, xk_b, xn, up_us, up_up, c_5]; done) | (simp [sa_ap, si_ap, si_sa, sa_sa, sa_3, sa_4, sa_5, sa_6, sa_7, sa_8, xk_b, xn, up_us, up_up, c_5]; done))), (by first | with_reducible rfl | (subst er_1; first | with_reducible rfl | (simp only [sa_ap, si_ap, si_sa, sa_sa, sa_3, sa_4, sa_5, sa_6, sa_7, sa_8, xk_b, xn, up_us, up_up, c_5]; done) | (simp [sa_ap, si_ap, si_sa, sa_sa, sa_3, sa_4, sa_5, sa_6, sa_7, sa_8, xk_b, xn, up_us, up_up, c_5]; done))), (by first | with_reducible rfl | (subst er_1; first | with_reducible rfl | (simp only [sa_ap, si_ap, si_sa, sa_sa, sa_3, sa_4, sa_5, sa_6, sa_7, sa_8, xk_b, xn, up_us, up_up, c_5]; done) | (simp [sa_ap, si_ap, si_sa, sa_sa, sa_3, sa_4, sa_5, sa_6, sa_7, sa_8, xk_b, xn, up_us, up_up, c_5]; done))), rfl, rfl⟩

set_option maxHeartbeats 400000 in
set_option maxRecDepth 100000 in
/-- drain.drain -/
theorem c_X10_drain (l : Launch) (D : va_G) (cy : Nat → ClassId) (A : Nat → Prop) (ad sad : Nat → Nat) (X M : XF) (K : KF) (p1 p2 : Int32) (hst : l.stackTraces = false) : vx_Met l yX10_drain (wsA yX10_drain cX10_drain 3 (some .int)) ({ frames := 6, cells := 1, slots := 6, locals := 82 }) (PcW D cy A ad sad X M K [.ref (ad 0), .int p1, .int p2]) (QiW D cy A ad (fun r X1 M1 K1 => xk_drain p1 p2 = 0 ∧ r = tk_min (X 5 p1.toNatClampNeg) p2 ∧ X1 = sa X 5 (upd (X 5) p1.toNatClampNeg (X 5 p1.toNatClampNeg - tk_min (X 5 p1.toNatClampNeg) p2)) ∧ M1 = M ∧ K1 = K)) (XcW D cy A ad (fun E X1 M1 K1 => ¬ xk_drain p1 p2 = 0 ∧ E = xn "java/lang/IllegalArgumentException" "java/lang/IllegalArgumentException" "java/lang/IllegalArgumentException" (xk_drain p1 p2) ∧ X1 = X ∧ M1 = M ∧ K1 = K)) 1 6 A := by
  refine vet_ofW [(0, .ref (ad 0)), (1, .int p1), (2, .int p2)] (by decide +kernel) (Nat.le_of_ble_eq_true rfl) rfl ?_
  intro G C hl hR hL hD hcy hA had hsa hr ht hQ
  subst hD hcy hA had hsa hl
  refine g_iload_n C dX10_drain_0 1 rfl ?_
  refine g_iconst C dX10_drain_1 (v := 3) (by decide) ?_
  refine g_callSiW C dX10_drain_2 (c_X10_isBelow _ _ _ _ _ _ _ _ _ _ _) tw499 tw500 tw1 tw501 rfl ⟨by decide +kernel, by decide +kernel, rfl⟩ ⟨rfl, rfl⟩ (by rw [hR]; decide) (Nat.le_of_ble_eq_true rfl) (by rw [hR]; decide) (fun r_1 X1 M1 K1 h_2 => ?_)
  obtain ⟨er_1, hX1, hM1, hK1⟩ := h_2
  subst X1 M1 K1
  try simp only [sa_ap, si_ap, reduceIte, Nat.reduceEqDiff] at er_1
  refine g_if_eq C dX10_drain_5 (tgt := 18) (by decide) (fun c_5 => ?_) (fun c_5 => ?_)
  · try simp only [sa_ap, si_ap, reduceIte, Nat.reduceEqDiff, up_us, lg_cmp_lt, lg_cmp_gt, lg_cmp_le, lg_cmp_ge] at c_5
    refine g_throwS C hst ht hQ th_103 th_ot_103 tw506 tw21 (i := 2) ⟨by decide, rfl⟩ dX10_drain_18 dX10_drain_21 dX10_drain_22 dX10_drain_24 dX10_drain_27 (by rw [hR]; decide) (by rw [hR]; decide) (by decide) ?_
    exact ⟨(by first | with_reducible rfl | (subst er_1; first | with_reducible rfl | (simp only [sa_ap, si_ap, si_sa, sa_sa, sa_3, sa_4, sa_5, sa_6, sa_7, sa_8, xk_drain, xn, up_us, up_up, c_5]; done) | (simp [sa_ap, si_ap, si_sa, sa_sa, sa_3, sa_4, sa_5, sa_6, sa_7, sa_8, xk_drain, xn, up_us, up_up, c_5]; done))), (by first | with_reducible rfl | (subst er_1; first | with_reducible rfl | (simp only [sa_ap, si_ap, si_sa, sa_sa, sa_3, sa_4, sa_5, sa_6, sa_7, sa_8, xk_drain, xn, up_us, up_up, c_5]; done) | (simp [sa_ap, si_ap, si_sa, sa_sa, sa_3, sa_4, sa_5, sa_6, sa_7, sa_8, xk_drain, xn, up_us, up_up, c_5]; done))), (by first | with_reducible rfl | (subst er_1; first | with_reducible rfl | (simp only [sa_ap, si_ap, si_sa, sa_sa, sa_3, sa_4, sa_5, sa_6, sa_7, sa_8, xk_drain, xn, up_us, up_up, c_5]; done) | (simp [sa_ap, si_ap, si_sa, sa_sa, sa_3, sa_4, sa_5, sa_6, sa_7, sa_8, xk_drain, xn, up_us, up_up, c_5]; done))), rfl, rfl⟩
  · try simp only [sa_ap, si_ap, reduceIte, Nat.reduceEqDiff, up_us, lg_cmp_lt, lg_cmp_gt, lg_cmp_le, lg_cmp_ge] at c_5
    obtain ⟨j, hj, rfl⟩ := bel_ix (p := p1) (s := 3) (n := 3) rfl (by omega) (by rw [← er_1]; exact c_5)
    have c_clj : (nI j).toNatClampNeg = j := nI_clamp (by omega)
    refine g_iload_n C dX10_drain_8 2 rfl ?_
    refine g_iconst C dX10_drain_9 (v := 1) (by decide) ?_
    refine g_ldc C dX10_drain_10 tw502 ?_
    refine g_callSiW C dX10_drain_12 (c_X10_isWithin _ _ _ _ _ _ _ _ _ _ _ _) tw503 tw504 tw1 tw505 rfl ⟨by decide +kernel, by decide +kernel, rfl⟩ ⟨rfl, rfl⟩ (by rw [hR]; decide) (Nat.le_of_ble_eq_true rfl) (by rw [hR]; decide) (fun r_3 X1 M1 K1 h_4 => ?_)
    obtain ⟨er_3, hX1, hM1, hK1⟩ := h_4
    subst X1 M1 K1
    try simp only [sa_ap, si_ap, reduceIte, Nat.reduceEqDiff] at er_3
    refine g_if_ne C dX10_drain_15 (tgt := 28) (by decide) (fun c_15 => ?_) (fun c_15 => ?_)
    · try simp only [sa_ap, si_ap, reduceIte, Nat.reduceEqDiff, up_us, lg_cmp_lt, lg_cmp_gt, lg_cmp_le, lg_cmp_ge] at c_15
      refine g_aload_n C dX10_drain_28 0 rfl ?_
      refine gf_X10_tanks C tw323 dX10_drain_29 ?_
      refine g_iload_n C dX10_drain_32 1 rfl ?_
      refine g_iload_n C dX10_drain_33 2 rfl ?_
      refine g_callViW C dX10_drain_34 (c_X9_takeOut _ _ _ _ _ _ _ _ _ j (by omega) _) tw542 tw543 tw544 tw2 tw545 (rv_X9 C) rfl ⟨by decide +kernel, by decide +kernel, rfl⟩ ⟨rfl, rfl⟩ (by rw [hR]; decide) (Nat.le_of_ble_eq_true rfl) (by rw [hR]; decide) (fun r_5 X1 M1 K1 h_6 => ?_)
      obtain ⟨er_5, hX1, hM1, hK1⟩ := h_6
      subst X1 M1 K1
      try simp only [sa_ap, si_ap, reduceIte, Nat.reduceEqDiff] at er_5
      refine g_iretWX C hr hQ (by decide) (by decide) dX10_drain_37 ?_
      exact ⟨(by first | with_reducible rfl | (subst er_1 er_3 er_5; first | with_reducible rfl | (simp only [sa_ap, si_ap, si_sa, sa_sa, sa_3, sa_4, sa_5, sa_6, sa_7, sa_8, xk_drain, xn, up_us, up_up, c_5, c_clj, c_15]; done) | (simp [sa_ap, si_ap, si_sa, sa_sa, sa_3, sa_4, sa_5, sa_6, sa_7, sa_8, xk_drain, xn, up_us, up_up, c_5, c_clj, c_15]; done))), (by first | with_reducible rfl | (subst er_1 er_3 er_5; first | with_reducible rfl | (simp only [sa_ap, si_ap, si_sa, sa_sa, sa_3, sa_4, sa_5, sa_6, sa_7, sa_8, xk_drain, xn, up_us, up_up, c_5, c_clj, c_15]; done) | (simp [sa_ap, si_ap, si_sa, sa_sa, sa_3, sa_4, sa_5, sa_6, sa_7, sa_8, xk_drain, xn, up_us, up_up, c_5, c_clj, c_15]; done))), (by first | with_reducible rfl | (subst er_1 er_3 er_5; first | with_reducible rfl | (simp only [sa_ap, si_ap, si_sa, sa_sa, sa_3, sa_4, sa_5, sa_6, sa_7, sa_8, xk_drain, xn, up_us, up_up, c_5, c_clj, c_15]; done) | (simp [sa_ap, si_ap, si_sa, sa_sa, sa_3, sa_4, sa_5, sa_6, sa_7, sa_8, xk_drain, xn, up_us, up_up, c_5, c_clj, c_15]; done))), rfl, rfl⟩
    · try simp only [sa_ap, si_ap, reduceIte, Nat.reduceEqDiff, up_us, lg_cmp_lt, lg_cmp_gt, lg_cmp_le, lg_cmp_ge] at c_15
      refine g_throwS C hst ht hQ th_103 th_ot_103 tw506 tw21 (i := 2) ⟨by decide, rfl⟩ dX10_drain_18 dX10_drain_21 dX10_drain_22 dX10_drain_24 dX10_drain_27 (by rw [hR]; decide) (by rw [hR]; decide) (by decide) ?_
      exact ⟨(by first | with_reducible rfl | (subst er_1 er_3; first | with_reducible rfl | (simp only [sa_ap, si_ap, si_sa, sa_sa, sa_3, sa_4, sa_5, sa_6, sa_7, sa_8, xk_drain, xn, up_us, up_up, c_5, c_clj, c_15]; done) | (simp [sa_ap, si_ap, si_sa, sa_sa, sa_3, sa_4, sa_5, sa_6, sa_7, sa_8, xk_drain, xn, up_us, up_up, c_5, c_clj, c_15]; done))), (by first | with_reducible rfl | (subst er_1 er_3; first | with_reducible rfl | (simp only [sa_ap, si_ap, si_sa, sa_sa, sa_3, sa_4, sa_5, sa_6, sa_7, sa_8, xk_drain, xn, up_us, up_up, c_5, c_clj, c_15]; done) | (simp [sa_ap, si_ap, si_sa, sa_sa, sa_3, sa_4, sa_5, sa_6, sa_7, sa_8, xk_drain, xn, up_us, up_up, c_5, c_clj, c_15]; done))), (by first | with_reducible rfl | (subst er_1 er_3; first | with_reducible rfl | (simp only [sa_ap, si_ap, si_sa, sa_sa, sa_3, sa_4, sa_5, sa_6, sa_7, sa_8, xk_drain, xn, up_us, up_up, c_5, c_clj, c_15]; done) | (simp [sa_ap, si_ap, si_sa, sa_sa, sa_3, sa_4, sa_5, sa_6, sa_7, sa_8, xk_drain, xn, up_us, up_up, c_5, c_clj, c_15]; done))), rfl, rfl⟩

set_option maxHeartbeats 400000 in
set_option maxRecDepth 100000 in
/-- inTank.inTank -/
theorem c_X10_inTank (l : Launch) (D : va_G) (cy : Nat → ClassId) (A : Nat → Prop) (ad sad : Nat → Nat) (X M : XF) (K : KF) (p1 : Int32) (hst : l.stackTraces = false) : vx_Met l yX10_inTank (wsA yX10_inTank cX10_inTank 2 (some .int)) ({ frames := 6, cells := 1, slots := 6, locals := 82 }) (PcW D cy A ad sad X M K [.ref (ad 0), .int p1]) (QiW D cy A ad (fun r X1 M1 K1 => xk_b p1 3 = 0 ∧ r = X 5 p1.toNatClampNeg ∧ X1 = X ∧ M1 = M ∧ K1 = K)) (XcW D cy A ad (fun E X1 M1 K1 => ¬ xk_b p1 3 = 0 ∧ E = xn "java/lang/IllegalArgumentException" "java/lang/IllegalArgumentException" "java/lang/IllegalArgumentException" (xk_b p1 3) ∧ X1 = X ∧ M1 = M ∧ K1 = K)) 1 6 A := by
  refine vet_ofW [(0, .ref (ad 0)), (1, .int p1)] (by decide +kernel) (Nat.le_of_ble_eq_true rfl) rfl ?_
  intro G C hl hR hL hD hcy hA had hsa hr ht hQ
  subst hD hcy hA had hsa hl
  refine g_iload_n C dX10_inTank_0 1 rfl ?_
  refine g_iconst C dX10_inTank_1 (v := 3) (by decide) ?_
  refine g_callSiW C dX10_inTank_2 (c_X10_isBelow _ _ _ _ _ _ _ _ _ _ _) tw499 tw500 tw1 tw501 rfl ⟨by decide +kernel, by decide +kernel, rfl⟩ ⟨rfl, rfl⟩ (by rw [hR]; decide) (Nat.le_of_ble_eq_true rfl) (by rw [hR]; decide) (fun r_1 X1 M1 K1 h_2 => ?_)
  obtain ⟨er_1, hX1, hM1, hK1⟩ := h_2
  subst X1 M1 K1
  try simp only [sa_ap, si_ap, reduceIte, Nat.reduceEqDiff] at er_1
  refine g_if_ne C dX10_inTank_5 (tgt := 18) (by decide) (fun c_5 => ?_) (fun c_5 => ?_)
  · try simp only [sa_ap, si_ap, reduceIte, Nat.reduceEqDiff, up_us, lg_cmp_lt, lg_cmp_gt, lg_cmp_le, lg_cmp_ge] at c_5
    obtain ⟨j, hj, rfl⟩ := bel_ix (p := p1) (s := 3) (n := 3) rfl (by omega) (by rw [← er_1]; exact c_5)
    have c_clj : (nI j).toNatClampNeg = j := nI_clamp (by omega)
    refine g_aload_n C dX10_inTank_18 0 rfl ?_
    refine gf_X10_tanks C tw323 dX10_inTank_19 ?_
    refine gf_X9_amount C tw58 dX10_inTank_22 ?_
    refine g_iload_n C dX10_inTank_25 1 rfl ?_
    refine al_5 C (by omega) dX10_inTank_26 ?_
    refine g_iretWX C hr hQ (by decide) (by decide) dX10_inTank_27 ?_
    exact ⟨(by first | with_reducible rfl | (subst er_1; first | with_reducible rfl | (simp only [sa_ap, si_ap, si_sa, sa_sa, sa_3, sa_4, sa_5, sa_6, sa_7, sa_8, xk_b, xn, up_us, up_up, c_5, c_clj]; done) | (simp [sa_ap, si_ap, si_sa, sa_sa, sa_3, sa_4, sa_5, sa_6, sa_7, sa_8, xk_b, xn, up_us, up_up, c_5, c_clj]; done))), (by first | with_reducible rfl | (subst er_1; first | with_reducible rfl | (simp only [sa_ap, si_ap, si_sa, sa_sa, sa_3, sa_4, sa_5, sa_6, sa_7, sa_8, xk_b, xn, up_us, up_up, c_5, c_clj]; done) | (simp [sa_ap, si_ap, si_sa, sa_sa, sa_3, sa_4, sa_5, sa_6, sa_7, sa_8, xk_b, xn, up_us, up_up, c_5, c_clj]; done))), (by first | with_reducible rfl | (subst er_1; first | with_reducible rfl | (simp only [sa_ap, si_ap, si_sa, sa_sa, sa_3, sa_4, sa_5, sa_6, sa_7, sa_8, xk_b, xn, up_us, up_up, c_5, c_clj]; done) | (simp [sa_ap, si_ap, si_sa, sa_sa, sa_3, sa_4, sa_5, sa_6, sa_7, sa_8, xk_b, xn, up_us, up_up, c_5, c_clj]; done))), rfl, rfl⟩
  · try simp only [sa_ap, si_ap, reduceIte, Nat.reduceEqDiff, up_us, lg_cmp_lt, lg_cmp_gt, lg_cmp_le, lg_cmp_ge] at c_5
    refine g_throwS C hst ht hQ th_103 th_ot_103 tw506 tw21 (i := 1) ⟨by decide, rfl⟩ dX10_inTank_8 dX10_inTank_11 dX10_inTank_12 dX10_inTank_14 dX10_inTank_17 (by rw [hR]; decide) (by rw [hR]; decide) (by decide) ?_
    exact ⟨(by first | with_reducible rfl | (subst er_1; first | with_reducible rfl | (simp only [sa_ap, si_ap, si_sa, sa_sa, sa_3, sa_4, sa_5, sa_6, sa_7, sa_8, xk_b, xn, up_us, up_up, c_5]; done) | (simp [sa_ap, si_ap, si_sa, sa_sa, sa_3, sa_4, sa_5, sa_6, sa_7, sa_8, xk_b, xn, up_us, up_up, c_5]; done))), (by first | with_reducible rfl | (subst er_1; first | with_reducible rfl | (simp only [sa_ap, si_ap, si_sa, sa_sa, sa_3, sa_4, sa_5, sa_6, sa_7, sa_8, xk_b, xn, up_us, up_up, c_5]; done) | (simp [sa_ap, si_ap, si_sa, sa_sa, sa_3, sa_4, sa_5, sa_6, sa_7, sa_8, xk_b, xn, up_us, up_up, c_5]; done))), (by first | with_reducible rfl | (subst er_1; first | with_reducible rfl | (simp only [sa_ap, si_ap, si_sa, sa_sa, sa_3, sa_4, sa_5, sa_6, sa_7, sa_8, xk_b, xn, up_us, up_up, c_5]; done) | (simp [sa_ap, si_ap, si_sa, sa_sa, sa_3, sa_4, sa_5, sa_6, sa_7, sa_8, xk_b, xn, up_us, up_up, c_5]; done))), rfl, rfl⟩

set_option maxHeartbeats 400000 in
set_option maxRecDepth 100000 in
/-- addStep.addStep -/
theorem c_X10_addStep (l : Launch) (D : va_G) (cy : Nat → ClassId) (A : Nat → Prop) (ad sad : Nat → Nat) (X M : XF) (K : KF) (p1 p2 : Int32) (z : Nat) (hz : X 102 0 = nI z) (hzl : z ≤ 16) (hst : l.stackTraces = false) : vx_Met l yX10_addStep (wsA yX10_addStep cX10_addStep 3 (some .int)) ({ frames := 6, cells := 1, slots := 6, locals := 82 }) (PcW D cy A ad sad X M K [.ref (ad 0), .int p1, .int p2]) (QiW D cy A ad (fun r X1 M1 K1 => xk_step (nI z) (X 118 0) p1 p2 = 0 ∧ r = nI z ∧ X1 = si (sa (sa (sa X 8 (upd (X 8) z p1)) 9 (upd (X 9) z p2)) 12 (upd (X 12) z 45)) 102 (nI z + 1) ∧ M1 = M ∧ K1 = K)) (XcW D cy A ad (fun E X1 M1 K1 => ¬ xk_step (nI z) (X 118 0) p1 p2 = 0 ∧ E = xn "java/lang/IllegalArgumentException" "java/lang/IllegalStateException" "java/lang/IllegalStateException" (xk_step (nI z) (X 118 0) p1 p2) ∧ X1 = X ∧ M1 = M ∧ K1 = K)) 1 6 A := by
  refine vet_ofW [(0, .ref (ad 0)), (1, .int p1), (2, .int p2)] (by decide +kernel) (Nat.le_of_ble_eq_true rfl) rfl ?_
  intro G C hl hR hL hD hcy hA had hsa hr ht hQ
  subst hD hcy hA had hsa hl
  refine g_iload_n C dX10_addStep_0 1 rfl ?_
  refine g_sipush C dX10_addStep_1 (v := (-600)) (by decide) ?_
  refine g_iconst C dX10_addStep_4 (v := (-1)) (by decide) ?_
  refine g_callSiW C dX10_addStep_5 (c_X10_isWithin _ _ _ _ _ _ _ _ _ _ _ _) tw503 tw504 tw1 tw505 rfl ⟨by decide +kernel, by decide +kernel, rfl⟩ ⟨rfl, rfl⟩ (by rw [hR]; decide) (Nat.le_of_ble_eq_true rfl) (by rw [hR]; decide) (fun r_1 X1 M1 K1 h_2 => ?_)
  obtain ⟨er_1, hX1, hM1, hK1⟩ := h_2
  subst X1 M1 K1
  try simp only [sa_ap, si_ap, reduceIte, Nat.reduceEqDiff] at er_1
  refine g_if_eq C dX10_addStep_8 (tgt := 22) (by decide) (fun c_8 => ?_) (fun c_8 => ?_)
  · try simp only [sa_ap, si_ap, reduceIte, Nat.reduceEqDiff, up_us, lg_cmp_lt, lg_cmp_gt, lg_cmp_le, lg_cmp_ge] at c_8
    refine g_throwS C hst ht hQ th_103 th_ot_103 tw506 tw21 (i := 3) ⟨by decide, rfl⟩ dX10_addStep_22 dX10_addStep_25 dX10_addStep_26 dX10_addStep_28 dX10_addStep_31 (by rw [hR]; decide) (by rw [hR]; decide) (by decide) ?_
    exact ⟨(by first | with_reducible rfl | (subst er_1; first | with_reducible rfl | (simp only [sa_ap, si_ap, si_sa, sa_sa, sa_3, sa_4, sa_5, sa_6, sa_7, sa_8, xk_step, xn, up_us, up_up, c_8]; done) | (simp [sa_ap, si_ap, si_sa, sa_sa, sa_3, sa_4, sa_5, sa_6, sa_7, sa_8, xk_step, xn, up_us, up_up, c_8]; done))), (by first | with_reducible rfl | (subst er_1; first | with_reducible rfl | (simp only [sa_ap, si_ap, si_sa, sa_sa, sa_3, sa_4, sa_5, sa_6, sa_7, sa_8, xk_step, xn, up_us, up_up, c_8]; done) | (simp [sa_ap, si_ap, si_sa, sa_sa, sa_3, sa_4, sa_5, sa_6, sa_7, sa_8, xk_step, xn, up_us, up_up, c_8]; done))), (by first | with_reducible rfl | (subst er_1; first | with_reducible rfl | (simp only [sa_ap, si_ap, si_sa, sa_sa, sa_3, sa_4, sa_5, sa_6, sa_7, sa_8, xk_step, xn, up_us, up_up, c_8]; done) | (simp [sa_ap, si_ap, si_sa, sa_sa, sa_3, sa_4, sa_5, sa_6, sa_7, sa_8, xk_step, xn, up_us, up_up, c_8]; done))), rfl, rfl⟩
  · try simp only [sa_ap, si_ap, reduceIte, Nat.reduceEqDiff, up_us, lg_cmp_lt, lg_cmp_gt, lg_cmp_le, lg_cmp_ge] at c_8
    refine g_iload_n C dX10_addStep_11 2 rfl ?_
    refine g_iconst C dX10_addStep_12 (v := 1) (by decide) ?_
    refine g_sipush C dX10_addStep_13 (v := 300) (by decide) ?_
    refine g_callSiW C dX10_addStep_16 (c_X10_isWithin _ _ _ _ _ _ _ _ _ _ _ _) tw503 tw504 tw1 tw505 rfl ⟨by decide +kernel, by decide +kernel, rfl⟩ ⟨rfl, rfl⟩ (by rw [hR]; decide) (Nat.le_of_ble_eq_true rfl) (by rw [hR]; decide) (fun r_3 X1 M1 K1 h_4 => ?_)
    obtain ⟨er_3, hX1, hM1, hK1⟩ := h_4
    subst X1 M1 K1
    try simp only [sa_ap, si_ap, reduceIte, Nat.reduceEqDiff] at er_3
    refine g_if_ne C dX10_addStep_19 (tgt := 32) (by decide) (fun c_19 => ?_) (fun c_19 => ?_)
    · try simp only [sa_ap, si_ap, reduceIte, Nat.reduceEqDiff, up_us, lg_cmp_lt, lg_cmp_gt, lg_cmp_le, lg_cmp_ge] at c_19
      refine g_aload_n C dX10_addStep_32 0 rfl ?_
      refine gf_X10_steps C tw324 dX10_addStep_33 ?_
      refine gf_X8_size C tw87 dX10_addStep_36 ?_
      refine g_topi hz ?_
      refine g_bipush C dX10_addStep_39 (v := 16) (by decide) ?_
      refine g_icmp_ge C dX10_addStep_41 (tgt := 51) (by decide) (fun c_41 => ?_) (fun c_41 => ?_)
      · try simp only [sa_ap, si_ap, reduceIte, Nat.reduceEqDiff, up_us, lg_cmp_lt, lg_cmp_gt, lg_cmp_le, lg_cmp_ge] at c_41
        refine g_throwS C hst ht hQ th_138 th_ot_138 tw563 tw23 (i := 4) ⟨by decide, rfl⟩ dX10_addStep_51 dX10_addStep_54 dX10_addStep_55 dX10_addStep_57 dX10_addStep_60 (by rw [hR]; decide) (by rw [hR]; decide) (by decide) ?_
        exact ⟨(by first | with_reducible rfl | (subst er_1 er_3; first | with_reducible rfl | (simp only [sa_ap, si_ap, si_sa, sa_sa, sa_3, sa_4, sa_5, sa_6, sa_7, sa_8, xk_step, xn, up_us, up_up, c_8, c_19, c_41]; done) | (simp [sa_ap, si_ap, si_sa, sa_sa, sa_3, sa_4, sa_5, sa_6, sa_7, sa_8, xk_step, xn, up_us, up_up, c_8, c_19, c_41]; done))), (by first | with_reducible rfl | (subst er_1 er_3; first | with_reducible rfl | (simp only [sa_ap, si_ap, si_sa, sa_sa, sa_3, sa_4, sa_5, sa_6, sa_7, sa_8, xk_step, xn, up_us, up_up, c_8, c_19, c_41]; done) | (simp [sa_ap, si_ap, si_sa, sa_sa, sa_3, sa_4, sa_5, sa_6, sa_7, sa_8, xk_step, xn, up_us, up_up, c_8, c_19, c_41]; done))), (by first | with_reducible rfl | (subst er_1 er_3; first | with_reducible rfl | (simp only [sa_ap, si_ap, si_sa, sa_sa, sa_3, sa_4, sa_5, sa_6, sa_7, sa_8, xk_step, xn, up_us, up_up, c_8, c_19, c_41]; done) | (simp [sa_ap, si_ap, si_sa, sa_sa, sa_3, sa_4, sa_5, sa_6, sa_7, sa_8, xk_step, xn, up_us, up_up, c_8, c_19, c_41]; done))), rfl, rfl⟩
      · try simp only [sa_ap, si_ap, reduceIte, Nat.reduceEqDiff, up_us, lg_cmp_lt, lg_cmp_gt, lg_cmp_le, lg_cmp_ge] at c_41
        have hlt : z < 16 := Nat.lt_of_le_of_ne hzl (fun q => c_41 (by rw [q]; decide))
        refine g_aload_n C dX10_addStep_44 0 rfl ?_
        refine g_callViW C dX10_addStep_45 (c_X10_isPlanFixed _ _ _ _ _ _ _ _ _ ) tw551 tw553 tp3 tw1 tw554 (rv_X10 C) rfl ⟨by decide +kernel, by decide +kernel, rfl⟩ ⟨rfl, rfl⟩ (by rw [hR]; decide) (Nat.le_of_ble_eq_true rfl) (by rw [hR]; decide) (fun r_5 X1 M1 K1 h_6 => ?_)
        obtain ⟨er_5, hX1, hM1, hK1⟩ := h_6
        subst X1 M1 K1
        try simp only [sa_ap, si_ap, reduceIte, Nat.reduceEqDiff] at er_5
        refine g_if_eq C dX10_addStep_48 (tgt := 61) (by decide) (fun c_48 => ?_) (fun c_48 => ?_)
        · try simp only [sa_ap, si_ap, reduceIte, Nat.reduceEqDiff, up_us, lg_cmp_lt, lg_cmp_gt, lg_cmp_le, lg_cmp_ge] at c_48
          refine g_aload_n C dX10_addStep_61 0 rfl ?_
          refine gf_X10_steps C tw324 dX10_addStep_62 ?_
          refine g_iload_n C dX10_addStep_65 1 rfl ?_
          refine g_iload_n C dX10_addStep_66 2 rfl ?_
          refine g_callViW C dX10_addStep_67 (c_X8_append _ _ _ _ _ _ _ _ _ _ _ z hz hlt) tw579 tw580 tw581 tw3 tw582 (rv_X8 C) rfl ⟨by decide +kernel, by decide +kernel, rfl⟩ ⟨rfl, rfl⟩ (by rw [hR]; decide) (Nat.le_of_ble_eq_true rfl) (by rw [hR]; decide) (fun r_7 X1 M1 K1 h_8 => ?_)
          obtain ⟨er_7, hX1, hM1, hK1⟩ := h_8
          subst X1 M1 K1
          try simp only [sa_ap, si_ap, reduceIte, Nat.reduceEqDiff] at er_7
          refine g_iretWX C hr hQ (by decide) (by decide) dX10_addStep_70 ?_
          exact ⟨(by first | with_reducible rfl | (subst er_1 er_3 er_5 er_7; first | with_reducible rfl | (simp only [sa_ap, si_ap, si_sa, sa_sa, sa_3, sa_4, sa_5, sa_6, sa_7, sa_8, xk_step, xn, up_us, up_up, c_8, c_19, c_41, c_48]; done) | (simp [sa_ap, si_ap, si_sa, sa_sa, sa_3, sa_4, sa_5, sa_6, sa_7, sa_8, xk_step, xn, up_us, up_up, c_8, c_19, c_41, c_48]; done))), (by first | with_reducible rfl | (subst er_1 er_3 er_5 er_7; first | with_reducible rfl | (simp only [sa_ap, si_ap, si_sa, sa_sa, sa_3, sa_4, sa_5, sa_6, sa_7, sa_8, xk_step, xn, up_us, up_up, c_8, c_19, c_41, c_48]; done) | (simp [sa_ap, si_ap, si_sa, sa_sa, sa_3, sa_4, sa_5, sa_6, sa_7, sa_8, xk_step, xn, up_us, up_up, c_8, c_19, c_41, c_48]; done))), (by first | with_reducible rfl | (subst er_1 er_3 er_5 er_7; first | with_reducible rfl | (simp only [sa_ap, si_ap, si_sa, sa_sa, sa_3, sa_4, sa_5, sa_6, sa_7, sa_8, xk_step, xn, up_us, up_up, c_8, c_19, c_41, c_48]; done) | (simp [sa_ap, si_ap, si_sa, sa_sa, sa_3, sa_4, sa_5, sa_6, sa_7, sa_8, xk_step, xn, up_us, up_up, c_8, c_19, c_41, c_48]; done))), rfl, rfl⟩
        · try simp only [sa_ap, si_ap, reduceIte, Nat.reduceEqDiff, up_us, lg_cmp_lt, lg_cmp_gt, lg_cmp_le, lg_cmp_ge] at c_48
          refine g_throwS C hst ht hQ th_138 th_ot_138 tw563 tw23 (i := 4) ⟨by decide, rfl⟩ dX10_addStep_51 dX10_addStep_54 dX10_addStep_55 dX10_addStep_57 dX10_addStep_60 (by rw [hR]; decide) (by rw [hR]; decide) (by decide) ?_
          exact ⟨(by first | with_reducible rfl | (subst er_1 er_3 er_5; first | with_reducible rfl | (simp only [sa_ap, si_ap, si_sa, sa_sa, sa_3, sa_4, sa_5, sa_6, sa_7, sa_8, xk_step, xn, up_us, up_up, c_8, c_19, c_41, c_48]; done) | (simp [sa_ap, si_ap, si_sa, sa_sa, sa_3, sa_4, sa_5, sa_6, sa_7, sa_8, xk_step, xn, up_us, up_up, c_8, c_19, c_41, c_48]; done))), (by first | with_reducible rfl | (subst er_1 er_3 er_5; first | with_reducible rfl | (simp only [sa_ap, si_ap, si_sa, sa_sa, sa_3, sa_4, sa_5, sa_6, sa_7, sa_8, xk_step, xn, up_us, up_up, c_8, c_19, c_41, c_48]; done) | (simp [sa_ap, si_ap, si_sa, sa_sa, sa_3, sa_4, sa_5, sa_6, sa_7, sa_8, xk_step, xn, up_us, up_up, c_8, c_19, c_41, c_48]; done))), (by first | with_reducible rfl | (subst er_1 er_3 er_5; first | with_reducible rfl | (simp only [sa_ap, si_ap, si_sa, sa_sa, sa_3, sa_4, sa_5, sa_6, sa_7, sa_8, xk_step, xn, up_us, up_up, c_8, c_19, c_41, c_48]; done) | (simp [sa_ap, si_ap, si_sa, sa_sa, sa_3, sa_4, sa_5, sa_6, sa_7, sa_8, xk_step, xn, up_us, up_up, c_8, c_19, c_41, c_48]; done))), rfl, rfl⟩
    · try simp only [sa_ap, si_ap, reduceIte, Nat.reduceEqDiff, up_us, lg_cmp_lt, lg_cmp_gt, lg_cmp_le, lg_cmp_ge] at c_19
      refine g_throwS C hst ht hQ th_103 th_ot_103 tw506 tw21 (i := 3) ⟨by decide, rfl⟩ dX10_addStep_22 dX10_addStep_25 dX10_addStep_26 dX10_addStep_28 dX10_addStep_31 (by rw [hR]; decide) (by rw [hR]; decide) (by decide) ?_
      exact ⟨(by first | with_reducible rfl | (subst er_1 er_3; first | with_reducible rfl | (simp only [sa_ap, si_ap, si_sa, sa_sa, sa_3, sa_4, sa_5, sa_6, sa_7, sa_8, xk_step, xn, up_us, up_up, c_8, c_19]; done) | (simp [sa_ap, si_ap, si_sa, sa_sa, sa_3, sa_4, sa_5, sa_6, sa_7, sa_8, xk_step, xn, up_us, up_up, c_8, c_19]; done))), (by first | with_reducible rfl | (subst er_1 er_3; first | with_reducible rfl | (simp only [sa_ap, si_ap, si_sa, sa_sa, sa_3, sa_4, sa_5, sa_6, sa_7, sa_8, xk_step, xn, up_us, up_up, c_8, c_19]; done) | (simp [sa_ap, si_ap, si_sa, sa_sa, sa_3, sa_4, sa_5, sa_6, sa_7, sa_8, xk_step, xn, up_us, up_up, c_8, c_19]; done))), (by first | with_reducible rfl | (subst er_1 er_3; first | with_reducible rfl | (simp only [sa_ap, si_ap, si_sa, sa_sa, sa_3, sa_4, sa_5, sa_6, sa_7, sa_8, xk_step, xn, up_us, up_up, c_8, c_19]; done) | (simp [sa_ap, si_ap, si_sa, sa_sa, sa_3, sa_4, sa_5, sa_6, sa_7, sa_8, xk_step, xn, up_us, up_up, c_8, c_19]; done))), rfl, rfl⟩

set_option maxHeartbeats 400000 in
set_option maxRecDepth 100000 in
/-- setAfter.setAfter -/
theorem c_X10_setAfter (l : Launch) (D : va_G) (cy : Nat → ClassId) (A : Nat → Prop) (ad sad : Nat → Nat) (X M : XF) (K : KF) (p1 p2 : Int32) (z : Nat) (hz : X 102 0 = nI z) (hzl : z ≤ 16) (hst : l.stackTraces = false) : vx_Met l yX10_setAfter (wsA yX10_setAfter cX10_setAfter 3 (some .int)) ({ frames := 6, cells := 1, slots := 6, locals := 82 }) (PcW D cy A ad sad X M K [.ref (ad 0), .int p1, .int p2]) (QiW D cy A ad (fun r X1 M1 K1 => xk_after (nI z) (X 118 0) p1 p2 = 0 ∧ r = bcnt (X 11 p1.toNatClampNeg ||| (1 <<< (p2 &&& 31))) ∧ X1 = sa X 11 (upd (X 11) p1.toNatClampNeg (X 11 p1.toNatClampNeg ||| (1 <<< (p2 &&& 31)))) ∧ M1 = M ∧ K1 = K)) (XcW D cy A ad (fun E X1 M1 K1 => ¬ xk_after (nI z) (X 118 0) p1 p2 = 0 ∧ E = xn "java/lang/IndexOutOfBoundsException" "java/lang/IllegalArgumentException" "java/lang/IllegalStateException" (xk_after (nI z) (X 118 0) p1 p2) ∧ X1 = X ∧ M1 = M ∧ K1 = K)) 1 6 A := by
  refine vet_ofW [(0, .ref (ad 0)), (1, .int p1), (2, .int p2)] (by decide +kernel) (Nat.le_of_ble_eq_true rfl) rfl ?_
  intro G C hl hR hL hD hcy hA had hsa hr ht hQ
  subst hD hcy hA had hsa hl
  refine g_iload_n C dX10_setAfter_0 1 rfl ?_
  refine g_aload_n C dX10_setAfter_1 0 rfl ?_
  refine gf_X10_steps C tw324 dX10_setAfter_2 ?_
  refine gf_X8_size C tw87 dX10_setAfter_5 ?_
  refine g_topi hz ?_
  refine g_callSiW C dX10_setAfter_8 (c_X10_isBelow _ _ _ _ _ _ _ _ _ _ _) tw499 tw500 tw1 tw501 rfl ⟨by decide +kernel, by decide +kernel, rfl⟩ ⟨rfl, rfl⟩ (by rw [hR]; decide) (Nat.le_of_ble_eq_true rfl) (by rw [hR]; decide) (fun r_1 X1 M1 K1 h_2 => ?_)
  obtain ⟨er_1, hX1, hM1, hK1⟩ := h_2
  subst X1 M1 K1
  try simp only [sa_ap, si_ap, reduceIte, Nat.reduceEqDiff] at er_1
  refine g_if_eq C dX10_setAfter_11 (tgt := 28) (by decide) (fun c_11 => ?_) (fun c_11 => ?_)
  · try simp only [sa_ap, si_ap, reduceIte, Nat.reduceEqDiff, up_us, lg_cmp_lt, lg_cmp_gt, lg_cmp_le, lg_cmp_ge] at c_11
    refine g_throwS C hst ht hQ th_146 th_ot_146 tw587 tw19 (i := 5) ⟨by decide, rfl⟩ dX10_setAfter_28 dX10_setAfter_31 dX10_setAfter_32 dX10_setAfter_34 dX10_setAfter_37 (by rw [hR]; decide) (by rw [hR]; decide) (by decide) ?_
    exact ⟨(by first | with_reducible rfl | (subst er_1; first | with_reducible rfl | (simp only [sa_ap, si_ap, si_sa, sa_sa, sa_3, sa_4, sa_5, sa_6, sa_7, sa_8, xk_after, xn, up_us, up_up, c_11]; done) | (simp [sa_ap, si_ap, si_sa, sa_sa, sa_3, sa_4, sa_5, sa_6, sa_7, sa_8, xk_after, xn, up_us, up_up, c_11]; done))), (by first | with_reducible rfl | (subst er_1; first | with_reducible rfl | (simp only [sa_ap, si_ap, si_sa, sa_sa, sa_3, sa_4, sa_5, sa_6, sa_7, sa_8, xk_after, xn, up_us, up_up, c_11]; done) | (simp [sa_ap, si_ap, si_sa, sa_sa, sa_3, sa_4, sa_5, sa_6, sa_7, sa_8, xk_after, xn, up_us, up_up, c_11]; done))), (by first | with_reducible rfl | (subst er_1; first | with_reducible rfl | (simp only [sa_ap, si_ap, si_sa, sa_sa, sa_3, sa_4, sa_5, sa_6, sa_7, sa_8, xk_after, xn, up_us, up_up, c_11]; done) | (simp [sa_ap, si_ap, si_sa, sa_sa, sa_3, sa_4, sa_5, sa_6, sa_7, sa_8, xk_after, xn, up_us, up_up, c_11]; done))), rfl, rfl⟩
  · try simp only [sa_ap, si_ap, reduceIte, Nat.reduceEqDiff, up_us, lg_cmp_lt, lg_cmp_gt, lg_cmp_le, lg_cmp_ge] at c_11
    obtain ⟨j, hj, rfl⟩ := bel_ix (p := p1) (s := nI z) (n := z) rfl (by omega) (by rw [← er_1]; exact c_11)
    have c_clj : (nI j).toNatClampNeg = j := nI_clamp (by omega)
    refine g_iload_n C dX10_setAfter_14 2 rfl ?_
    refine g_aload_n C dX10_setAfter_15 0 rfl ?_
    refine gf_X10_steps C tw324 dX10_setAfter_16 ?_
    refine gf_X8_size C tw87 dX10_setAfter_19 ?_
    refine g_topi hz ?_
    refine g_callSiW C dX10_setAfter_22 (c_X10_isBelow _ _ _ _ _ _ _ _ _ _ _) tw499 tw500 tw1 tw501 rfl ⟨by decide +kernel, by decide +kernel, rfl⟩ ⟨rfl, rfl⟩ (by rw [hR]; decide) (Nat.le_of_ble_eq_true rfl) (by rw [hR]; decide) (fun r_3 X1 M1 K1 h_4 => ?_)
    obtain ⟨er_3, hX1, hM1, hK1⟩ := h_4
    subst X1 M1 K1
    try simp only [sa_ap, si_ap, reduceIte, Nat.reduceEqDiff] at er_3
    refine g_if_ne C dX10_setAfter_25 (tgt := 38) (by decide) (fun c_25 => ?_) (fun c_25 => ?_)
    · try simp only [sa_ap, si_ap, reduceIte, Nat.reduceEqDiff, up_us, lg_cmp_lt, lg_cmp_gt, lg_cmp_le, lg_cmp_ge] at c_25
      refine g_iload_n C dX10_setAfter_38 2 rfl ?_
      refine g_iload_n C dX10_setAfter_39 1 rfl ?_
      refine g_icmp_lt C dX10_setAfter_40 (tgt := 53) (by decide) (fun c_40 => ?_) (fun c_40 => ?_)
      · try simp only [sa_ap, si_ap, reduceIte, Nat.reduceEqDiff, up_us, lg_cmp_lt, lg_cmp_gt, lg_cmp_le, lg_cmp_ge] at c_40
        refine g_aload_n C dX10_setAfter_53 0 rfl ?_
        refine g_callViW C dX10_setAfter_54 (c_X10_isPlanFixed _ _ _ _ _ _ _ _ _ ) tw551 tw553 tp3 tw1 tw554 (rv_X10 C) rfl ⟨by decide +kernel, by decide +kernel, rfl⟩ ⟨rfl, rfl⟩ (by rw [hR]; decide) (Nat.le_of_ble_eq_true rfl) (by rw [hR]; decide) (fun r_5 X1 M1 K1 h_6 => ?_)
        obtain ⟨er_5, hX1, hM1, hK1⟩ := h_6
        subst X1 M1 K1
        try simp only [sa_ap, si_ap, reduceIte, Nat.reduceEqDiff] at er_5
        refine g_if_eq C dX10_setAfter_57 (tgt := 70) (by decide) (fun c_57 => ?_) (fun c_57 => ?_)
        · try simp only [sa_ap, si_ap, reduceIte, Nat.reduceEqDiff, up_us, lg_cmp_lt, lg_cmp_gt, lg_cmp_le, lg_cmp_ge] at c_57
          refine g_aload_n C dX10_setAfter_70 0 rfl ?_
          refine gf_X10_steps C tw324 dX10_setAfter_71 ?_
          refine g_iload_n C dX10_setAfter_74 1 rfl ?_
          refine g_iload_n C dX10_setAfter_75 2 rfl ?_
          refine g_callViW C dX10_setAfter_76 (c_X8_putBehind _ _ _ _ _ _ _ _ _ j (by omega) _) tw602 tw603 tw604 tw3 tw605 (rv_X8 C) rfl ⟨by decide +kernel, by decide +kernel, rfl⟩ ⟨rfl, rfl⟩ (by rw [hR]; decide) (Nat.le_of_ble_eq_true rfl) (by rw [hR]; decide) (fun r_7 X1 M1 K1 h_8 => ?_)
          obtain ⟨er_7, hX1, hM1, hK1⟩ := h_8
          subst X1 M1 K1
          try simp only [sa_ap, si_ap, reduceIte, Nat.reduceEqDiff] at er_7
          refine g_iretWX C hr hQ (by decide) (by decide) dX10_setAfter_79 ?_
          exact ⟨(by first | with_reducible rfl | (subst er_1 er_3 er_5 er_7; first | with_reducible rfl | (simp only [sa_ap, si_ap, si_sa, sa_sa, sa_3, sa_4, sa_5, sa_6, sa_7, sa_8, xk_after, xn, up_us, up_up, c_11, c_clj, c_25, c_40, c_57]; done) | (simp [sa_ap, si_ap, si_sa, sa_sa, sa_3, sa_4, sa_5, sa_6, sa_7, sa_8, xk_after, xn, up_us, up_up, c_11, c_clj, c_25, c_40, c_57]; done))), (by first | with_reducible rfl | (subst er_1 er_3 er_5 er_7; first | with_reducible rfl | (simp only [sa_ap, si_ap, si_sa, sa_sa, sa_3, sa_4, sa_5, sa_6, sa_7, sa_8, xk_after, xn, up_us, up_up, c_11, c_clj, c_25, c_40, c_57]; done) | (simp [sa_ap, si_ap, si_sa, sa_sa, sa_3, sa_4, sa_5, sa_6, sa_7, sa_8, xk_after, xn, up_us, up_up, c_11, c_clj, c_25, c_40, c_57]; done))), (by first | with_reducible rfl | (subst er_1 er_3 er_5 er_7; first | with_reducible rfl | (simp only [sa_ap, si_ap, si_sa, sa_sa, sa_3, sa_4, sa_5, sa_6, sa_7, sa_8, xk_after, xn, up_us, up_up, c_11, c_clj, c_25, c_40, c_57]; done) | (simp [sa_ap, si_ap, si_sa, sa_sa, sa_3, sa_4, sa_5, sa_6, sa_7, sa_8, xk_after, xn, up_us, up_up, c_11, c_clj, c_25, c_40, c_57]; done))), rfl, rfl⟩
        · try simp only [sa_ap, si_ap, reduceIte, Nat.reduceEqDiff, up_us, lg_cmp_lt, lg_cmp_gt, lg_cmp_le, lg_cmp_ge] at c_57
          refine g_throwS C hst ht hQ th_138 th_ot_138 tw563 tw23 (i := 7) ⟨by decide, rfl⟩ dX10_setAfter_60 dX10_setAfter_63 dX10_setAfter_64 dX10_setAfter_66 dX10_setAfter_69 (by rw [hR]; decide) (by rw [hR]; decide) (by decide) ?_
          exact ⟨(by first | with_reducible rfl | (subst er_1 er_3 er_5; first | with_reducible rfl | (simp only [sa_ap, si_ap, si_sa, sa_sa, sa_3, sa_4, sa_5, sa_6, sa_7, sa_8, xk_after, xn, up_us, up_up, c_11, c_clj, c_25, c_40, c_57]; done) | (simp [sa_ap, si_ap, si_sa, sa_sa, sa_3, sa_4, sa_5, sa_6, sa_7, sa_8, xk_after, xn, up_us, up_up, c_11, c_clj, c_25, c_40, c_57]; done))), (by first | with_reducible rfl | (subst er_1 er_3 er_5; first | with_reducible rfl | (simp only [sa_ap, si_ap, si_sa, sa_sa, sa_3, sa_4, sa_5, sa_6, sa_7, sa_8, xk_after, xn, up_us, up_up, c_11, c_clj, c_25, c_40, c_57]; done) | (simp [sa_ap, si_ap, si_sa, sa_sa, sa_3, sa_4, sa_5, sa_6, sa_7, sa_8, xk_after, xn, up_us, up_up, c_11, c_clj, c_25, c_40, c_57]; done))), (by first | with_reducible rfl | (subst er_1 er_3 er_5; first | with_reducible rfl | (simp only [sa_ap, si_ap, si_sa, sa_sa, sa_3, sa_4, sa_5, sa_6, sa_7, sa_8, xk_after, xn, up_us, up_up, c_11, c_clj, c_25, c_40, c_57]; done) | (simp [sa_ap, si_ap, si_sa, sa_sa, sa_3, sa_4, sa_5, sa_6, sa_7, sa_8, xk_after, xn, up_us, up_up, c_11, c_clj, c_25, c_40, c_57]; done))), rfl, rfl⟩
      · try simp only [sa_ap, si_ap, reduceIte, Nat.reduceEqDiff, up_us, lg_cmp_lt, lg_cmp_gt, lg_cmp_le, lg_cmp_ge] at c_40
        refine g_throwS C hst ht hQ th_103 th_ot_103 tw506 tw21 (i := 6) ⟨by decide, rfl⟩ dX10_setAfter_43 dX10_setAfter_46 dX10_setAfter_47 dX10_setAfter_49 dX10_setAfter_52 (by rw [hR]; decide) (by rw [hR]; decide) (by decide) ?_
        exact ⟨(by first | with_reducible rfl | (subst er_1 er_3; first | with_reducible rfl | (simp only [sa_ap, si_ap, si_sa, sa_sa, sa_3, sa_4, sa_5, sa_6, sa_7, sa_8, xk_after, xn, up_us, up_up, c_11, c_clj, c_25, c_40]; done) | (simp [sa_ap, si_ap, si_sa, sa_sa, sa_3, sa_4, sa_5, sa_6, sa_7, sa_8, xk_after, xn, up_us, up_up, c_11, c_clj, c_25, c_40]; done))), (by first | with_reducible rfl | (subst er_1 er_3; first | with_reducible rfl | (simp only [sa_ap, si_ap, si_sa, sa_sa, sa_3, sa_4, sa_5, sa_6, sa_7, sa_8, xk_after, xn, up_us, up_up, c_11, c_clj, c_25, c_40]; done) | (simp [sa_ap, si_ap, si_sa, sa_sa, sa_3, sa_4, sa_5, sa_6, sa_7, sa_8, xk_after, xn, up_us, up_up, c_11, c_clj, c_25, c_40]; done))), (by first | with_reducible rfl | (subst er_1 er_3; first | with_reducible rfl | (simp only [sa_ap, si_ap, si_sa, sa_sa, sa_3, sa_4, sa_5, sa_6, sa_7, sa_8, xk_after, xn, up_us, up_up, c_11, c_clj, c_25, c_40]; done) | (simp [sa_ap, si_ap, si_sa, sa_sa, sa_3, sa_4, sa_5, sa_6, sa_7, sa_8, xk_after, xn, up_us, up_up, c_11, c_clj, c_25, c_40]; done))), rfl, rfl⟩
    · try simp only [sa_ap, si_ap, reduceIte, Nat.reduceEqDiff, up_us, lg_cmp_lt, lg_cmp_gt, lg_cmp_le, lg_cmp_ge] at c_25
      refine g_throwS C hst ht hQ th_146 th_ot_146 tw587 tw19 (i := 5) ⟨by decide, rfl⟩ dX10_setAfter_28 dX10_setAfter_31 dX10_setAfter_32 dX10_setAfter_34 dX10_setAfter_37 (by rw [hR]; decide) (by rw [hR]; decide) (by decide) ?_
      exact ⟨(by first | with_reducible rfl | (subst er_1 er_3; first | with_reducible rfl | (simp only [sa_ap, si_ap, si_sa, sa_sa, sa_3, sa_4, sa_5, sa_6, sa_7, sa_8, xk_after, xn, up_us, up_up, c_11, c_clj, c_25]; done) | (simp [sa_ap, si_ap, si_sa, sa_sa, sa_3, sa_4, sa_5, sa_6, sa_7, sa_8, xk_after, xn, up_us, up_up, c_11, c_clj, c_25]; done))), (by first | with_reducible rfl | (subst er_1 er_3; first | with_reducible rfl | (simp only [sa_ap, si_ap, si_sa, sa_sa, sa_3, sa_4, sa_5, sa_6, sa_7, sa_8, xk_after, xn, up_us, up_up, c_11, c_clj, c_25]; done) | (simp [sa_ap, si_ap, si_sa, sa_sa, sa_3, sa_4, sa_5, sa_6, sa_7, sa_8, xk_after, xn, up_us, up_up, c_11, c_clj, c_25]; done))), (by first | with_reducible rfl | (subst er_1 er_3; first | with_reducible rfl | (simp only [sa_ap, si_ap, si_sa, sa_sa, sa_3, sa_4, sa_5, sa_6, sa_7, sa_8, xk_after, xn, up_us, up_up, c_11, c_clj, c_25]; done) | (simp [sa_ap, si_ap, si_sa, sa_sa, sa_3, sa_4, sa_5, sa_6, sa_7, sa_8, xk_after, xn, up_us, up_up, c_11, c_clj, c_25]; done))), rfl, rfl⟩

set_option maxHeartbeats 400000 in
set_option maxRecDepth 100000 in
/-- stepState.stepState -/
theorem c_X10_stepState (l : Launch) (D : va_G) (cy : Nat → ClassId) (A : Nat → Prop) (ad sad : Nat → Nat) (X M : XF) (K : KF) (p1 : Int32) (z : Nat) (hz : X 102 0 = nI z) (hzl : z ≤ 16) (hc : ∀ i : Nat, isCh (X 12 i)) (hst : l.stackTraces = false) : vx_Met l yX10_stepState (wsA yX10_stepState cX10_stepState 2 (some .char)) ({ frames := 6, cells := 1, slots := 6, locals := 82 }) (PcW D cy A ad sad X M K [.ref (ad 0), .int p1]) (QiW D cy A ad (fun r X1 M1 K1 => xk_b p1 (nI z) = 0 ∧ r = X 12 p1.toNatClampNeg ∧ X1 = X ∧ M1 = M ∧ K1 = K)) (XcW D cy A ad (fun E X1 M1 K1 => ¬ xk_b p1 (nI z) = 0 ∧ E = xn "java/lang/IndexOutOfBoundsException" "java/lang/IndexOutOfBoundsException" "java/lang/IndexOutOfBoundsException" (xk_b p1 (nI z)) ∧ X1 = X ∧ M1 = M ∧ K1 = K)) 1 6 A := by
  refine vet_ofW [(0, .ref (ad 0)), (1, .int p1)] (by decide +kernel) (Nat.le_of_ble_eq_true rfl) rfl ?_
  intro G C hl hR hL hD hcy hA had hsa hr ht hQ
  subst hD hcy hA had hsa hl
  refine g_iload_n C dX10_stepState_0 1 rfl ?_
  refine g_aload_n C dX10_stepState_1 0 rfl ?_
  refine gf_X10_steps C tw324 dX10_stepState_2 ?_
  refine gf_X8_size C tw87 dX10_stepState_5 ?_
  refine g_topi hz ?_
  refine g_callSiW C dX10_stepState_8 (c_X10_isBelow _ _ _ _ _ _ _ _ _ _ _) tw499 tw500 tw1 tw501 rfl ⟨by decide +kernel, by decide +kernel, rfl⟩ ⟨rfl, rfl⟩ (by rw [hR]; decide) (Nat.le_of_ble_eq_true rfl) (by rw [hR]; decide) (fun r_1 X1 M1 K1 h_2 => ?_)
  obtain ⟨er_1, hX1, hM1, hK1⟩ := h_2
  subst X1 M1 K1
  try simp only [sa_ap, si_ap, reduceIte, Nat.reduceEqDiff] at er_1
  refine g_if_ne C dX10_stepState_11 (tgt := 24) (by decide) (fun c_11 => ?_) (fun c_11 => ?_)
  · try simp only [sa_ap, si_ap, reduceIte, Nat.reduceEqDiff, up_us, lg_cmp_lt, lg_cmp_gt, lg_cmp_le, lg_cmp_ge] at c_11
    obtain ⟨j, hj, rfl⟩ := bel_ix (p := p1) (s := nI z) (n := z) rfl (by omega) (by rw [← er_1]; exact c_11)
    have c_clj : (nI j).toNatClampNeg = j := nI_clamp (by omega)
    refine g_aload_n C dX10_stepState_24 0 rfl ?_
    refine gf_X10_steps C tw324 dX10_stepState_25 ?_
    refine gf_X8_state C tw85 dX10_stepState_28 ?_
    refine g_iload_n C dX10_stepState_31 1 rfl ?_
    refine al_12 C (by omega) dX10_stepState_32 ?_
    refine g_zretWX C hr (hc _).1 hQ (by decide) (by decide) dX10_stepState_33 ?_
    exact ⟨(by first | with_reducible rfl | (subst er_1; first | with_reducible rfl | (simp only [sa_ap, si_ap, si_sa, sa_sa, sa_3, sa_4, sa_5, sa_6, sa_7, sa_8, xk_b, xn, up_us, up_up, c_11, c_clj]; done) | (simp [sa_ap, si_ap, si_sa, sa_sa, sa_3, sa_4, sa_5, sa_6, sa_7, sa_8, xk_b, xn, up_us, up_up, c_11, c_clj]; done))), (by first | with_reducible rfl | (subst er_1; first | with_reducible rfl | (simp only [sa_ap, si_ap, si_sa, sa_sa, sa_3, sa_4, sa_5, sa_6, sa_7, sa_8, xk_b, xn, up_us, up_up, c_11, c_clj]; done) | (simp [sa_ap, si_ap, si_sa, sa_sa, sa_3, sa_4, sa_5, sa_6, sa_7, sa_8, xk_b, xn, up_us, up_up, c_11, c_clj]; done))), (by first | with_reducible rfl | (subst er_1; first | with_reducible rfl | (simp only [sa_ap, si_ap, si_sa, sa_sa, sa_3, sa_4, sa_5, sa_6, sa_7, sa_8, xk_b, xn, up_us, up_up, c_11, c_clj]; done) | (simp [sa_ap, si_ap, si_sa, sa_sa, sa_3, sa_4, sa_5, sa_6, sa_7, sa_8, xk_b, xn, up_us, up_up, c_11, c_clj]; done))), rfl, rfl⟩
  · try simp only [sa_ap, si_ap, reduceIte, Nat.reduceEqDiff, up_us, lg_cmp_lt, lg_cmp_gt, lg_cmp_le, lg_cmp_ge] at c_11
    refine g_throwS C hst ht hQ th_146 th_ot_146 tw587 tw19 (i := 5) ⟨by decide, rfl⟩ dX10_stepState_14 dX10_stepState_17 dX10_stepState_18 dX10_stepState_20 dX10_stepState_23 (by rw [hR]; decide) (by rw [hR]; decide) (by decide) ?_
    exact ⟨(by first | with_reducible rfl | (subst er_1; first | with_reducible rfl | (simp only [sa_ap, si_ap, si_sa, sa_sa, sa_3, sa_4, sa_5, sa_6, sa_7, sa_8, xk_b, xn, up_us, up_up, c_11]; done) | (simp [sa_ap, si_ap, si_sa, sa_sa, sa_3, sa_4, sa_5, sa_6, sa_7, sa_8, xk_b, xn, up_us, up_up, c_11]; done))), (by first | with_reducible rfl | (subst er_1; first | with_reducible rfl | (simp only [sa_ap, si_ap, si_sa, sa_sa, sa_3, sa_4, sa_5, sa_6, sa_7, sa_8, xk_b, xn, up_us, up_up, c_11]; done) | (simp [sa_ap, si_ap, si_sa, sa_sa, sa_3, sa_4, sa_5, sa_6, sa_7, sa_8, xk_b, xn, up_us, up_up, c_11]; done))), (by first | with_reducible rfl | (subst er_1; first | with_reducible rfl | (simp only [sa_ap, si_ap, si_sa, sa_sa, sa_3, sa_4, sa_5, sa_6, sa_7, sa_8, xk_b, xn, up_us, up_up, c_11]; done) | (simp [sa_ap, si_ap, si_sa, sa_sa, sa_3, sa_4, sa_5, sa_6, sa_7, sa_8, xk_b, xn, up_us, up_up, c_11]; done))), rfl, rfl⟩

set_option maxHeartbeats 400000 in
set_option maxRecDepth 100000 in
/-- addMark.addMark -/
theorem c_X10_addMark (l : Launch) (D : va_G) (cy : Nat → ClassId) (A : Nat → Prop) (ad sad : Nat → Nat) (X M : XF) (K : KF) (p1 p2 p3 : Int32) (z : Nat) (hz : X 103 0 = nI z) (hzl : z ≤ 6) (hst : l.stackTraces = false) : vx_Met l yX10_addMark (wsA yX10_addMark cX10_addMark 4 (some .int)) ({ frames := 6, cells := 1, slots := 6, locals := 82 }) (PcW D cy A ad sad X M K [.ref (ad 0), .int p1, .int p2, .int p3]) (QiW D cy A ad (fun r X1 M1 K1 => xk_mark (X 14) z (X 102 0) (X 118 0) p1 p2 p3 = 0 ∧ r = nI z + 1 ∧ X1 = si (sa (sa (sa X 14 (upd (mk_sh p1 z (X 14) (X 15) (X 16)).1.1 (mk_sh p1 z (X 14) (X 15) (X 16)).2 p1)) 15 (upd (mk_sh p1 z (X 14) (X 15) (X 16)).1.2.1 (mk_sh p1 z (X 14) (X 15) (X 16)).2 p2)) 16 (upd (mk_sh p1 z (X 14) (X 15) (X 16)).1.2.2 (mk_sh p1 z (X 14) (X 15) (X 16)).2 p3)) 103 (nI z + 1) ∧ M1 = M ∧ K1 = K)) (XcW D cy A ad (fun E X1 M1 K1 => ¬ xk_mark (X 14) z (X 102 0) (X 118 0) p1 p2 p3 = 0 ∧ E = xn "java/lang/IllegalArgumentException" "java/lang/UnsupportedOperationException" "java/lang/IllegalStateException" (xk_mark (X 14) z (X 102 0) (X 118 0) p1 p2 p3) ∧ X1 = X ∧ M1 = M ∧ K1 = K)) 1 6 A := by
  refine vet_ofW [(0, .ref (ad 0)), (1, .int p1), (2, .int p2), (3, .int p3)] (by decide +kernel) (Nat.le_of_ble_eq_true rfl) rfl ?_
  intro G C hl hR hL hD hcy hA had hsa hr ht hQ
  subst hD hcy hA had hsa hl
  refine g_iload_n C dX10_addMark_0 1 rfl ?_
  refine g_sipush C dX10_addMark_1 (v := (-600)) (by decide) ?_
  refine g_iconst C dX10_addMark_4 (v := (-1)) (by decide) ?_
  refine g_callSiW C dX10_addMark_5 (c_X10_isWithin _ _ _ _ _ _ _ _ _ _ _ _) tw503 tw504 tw1 tw505 rfl ⟨by decide +kernel, by decide +kernel, rfl⟩ ⟨rfl, rfl⟩ (by rw [hR]; decide) (Nat.le_of_ble_eq_true rfl) (by rw [hR]; decide) (fun r_1 X1 M1 K1 h_2 => ?_)
  obtain ⟨er_1, hX1, hM1, hK1⟩ := h_2
  subst X1 M1 K1
  try simp only [sa_ap, si_ap, reduceIte, Nat.reduceEqDiff] at er_1
  refine g_if_eq C dX10_addMark_8 (tgt := 34) (by decide) (fun c_8 => ?_) (fun c_8 => ?_)
  · try simp only [sa_ap, si_ap, reduceIte, Nat.reduceEqDiff, up_us, lg_cmp_lt, lg_cmp_gt, lg_cmp_le, lg_cmp_ge] at c_8
    refine g_throwS C hst ht hQ th_103 th_ot_103 tw506 tw21 (i := 8) ⟨by decide, rfl⟩ dX10_addMark_34 dX10_addMark_37 dX10_addMark_38 dX10_addMark_40 dX10_addMark_43 (by rw [hR]; decide) (by rw [hR]; decide) (by decide) ?_
    exact ⟨(by first | with_reducible rfl | (subst er_1; first | with_reducible rfl | (simp only [sa_ap, si_ap, si_sa, sa_sa, sa_3, sa_4, sa_5, sa_6, sa_7, sa_8, xk_mark, xn, up_us, up_up, c_8]; done) | (simp [sa_ap, si_ap, si_sa, sa_sa, sa_3, sa_4, sa_5, sa_6, sa_7, sa_8, xk_mark, xn, up_us, up_up, c_8]; done))), (by first | with_reducible rfl | (subst er_1; first | with_reducible rfl | (simp only [sa_ap, si_ap, si_sa, sa_sa, sa_3, sa_4, sa_5, sa_6, sa_7, sa_8, xk_mark, xn, up_us, up_up, c_8]; done) | (simp [sa_ap, si_ap, si_sa, sa_sa, sa_3, sa_4, sa_5, sa_6, sa_7, sa_8, xk_mark, xn, up_us, up_up, c_8]; done))), (by first | with_reducible rfl | (subst er_1; first | with_reducible rfl | (simp only [sa_ap, si_ap, si_sa, sa_sa, sa_3, sa_4, sa_5, sa_6, sa_7, sa_8, xk_mark, xn, up_us, up_up, c_8]; done) | (simp [sa_ap, si_ap, si_sa, sa_sa, sa_3, sa_4, sa_5, sa_6, sa_7, sa_8, xk_mark, xn, up_us, up_up, c_8]; done))), rfl, rfl⟩
  · try simp only [sa_ap, si_ap, reduceIte, Nat.reduceEqDiff, up_us, lg_cmp_lt, lg_cmp_gt, lg_cmp_le, lg_cmp_ge] at c_8
    refine g_iload_n C dX10_addMark_11 2 rfl ?_
    refine g_iconst C dX10_addMark_12 (v := 0) (by decide) ?_
    refine g_sipush C dX10_addMark_13 (v := 300) (by decide) ?_
    refine g_callSiW C dX10_addMark_16 (c_X10_isWithin _ _ _ _ _ _ _ _ _ _ _ _) tw503 tw504 tw1 tw505 rfl ⟨by decide +kernel, by decide +kernel, rfl⟩ ⟨rfl, rfl⟩ (by rw [hR]; decide) (Nat.le_of_ble_eq_true rfl) (by rw [hR]; decide) (fun r_3 X1 M1 K1 h_4 => ?_)
    obtain ⟨er_3, hX1, hM1, hK1⟩ := h_4
    subst X1 M1 K1
    try simp only [sa_ap, si_ap, reduceIte, Nat.reduceEqDiff] at er_3
    refine g_if_eq C dX10_addMark_19 (tgt := 34) (by decide) (fun c_19 => ?_) (fun c_19 => ?_)
    · try simp only [sa_ap, si_ap, reduceIte, Nat.reduceEqDiff, up_us, lg_cmp_lt, lg_cmp_gt, lg_cmp_le, lg_cmp_ge] at c_19
      refine g_throwS C hst ht hQ th_103 th_ot_103 tw506 tw21 (i := 8) ⟨by decide, rfl⟩ dX10_addMark_34 dX10_addMark_37 dX10_addMark_38 dX10_addMark_40 dX10_addMark_43 (by rw [hR]; decide) (by rw [hR]; decide) (by decide) ?_
      exact ⟨(by first | with_reducible rfl | (subst er_1 er_3; first | with_reducible rfl | (simp only [sa_ap, si_ap, si_sa, sa_sa, sa_3, sa_4, sa_5, sa_6, sa_7, sa_8, xk_mark, xn, up_us, up_up, c_8, c_19]; done) | (simp [sa_ap, si_ap, si_sa, sa_sa, sa_3, sa_4, sa_5, sa_6, sa_7, sa_8, xk_mark, xn, up_us, up_up, c_8, c_19]; done))), (by first | with_reducible rfl | (subst er_1 er_3; first | with_reducible rfl | (simp only [sa_ap, si_ap, si_sa, sa_sa, sa_3, sa_4, sa_5, sa_6, sa_7, sa_8, xk_mark, xn, up_us, up_up, c_8, c_19]; done) | (simp [sa_ap, si_ap, si_sa, sa_sa, sa_3, sa_4, sa_5, sa_6, sa_7, sa_8, xk_mark, xn, up_us, up_up, c_8, c_19]; done))), (by first | with_reducible rfl | (subst er_1 er_3; first | with_reducible rfl | (simp only [sa_ap, si_ap, si_sa, sa_sa, sa_3, sa_4, sa_5, sa_6, sa_7, sa_8, xk_mark, xn, up_us, up_up, c_8, c_19]; done) | (simp [sa_ap, si_ap, si_sa, sa_sa, sa_3, sa_4, sa_5, sa_6, sa_7, sa_8, xk_mark, xn, up_us, up_up, c_8, c_19]; done))), rfl, rfl⟩
    · try simp only [sa_ap, si_ap, reduceIte, Nat.reduceEqDiff, up_us, lg_cmp_lt, lg_cmp_gt, lg_cmp_le, lg_cmp_ge] at c_19
      refine g_aload_n C dX10_addMark_22 0 rfl ?_
      refine gf_X10_marks C tw325 dX10_addMark_23 ?_
      refine g_iload_n C dX10_addMark_26 1 rfl ?_
      refine g_callViW C dX10_addMark_27 (c_X5_find _ _ _ _ _ _ _ _ _ _ z hz hzl) tw616 tw617 tw618 tw4 tw619 (rv_X5 C) rfl ⟨by decide +kernel, by decide +kernel, rfl⟩ ⟨rfl, rfl⟩ (by rw [hR]; decide) (Nat.le_of_ble_eq_true rfl) (by rw [hR]; decide) (fun r_5 X1 M1 K1 h_6 => ?_)
      obtain ⟨er_5, hX1, hM1, hK1⟩ := h_6
      subst X1 M1 K1
      try simp only [sa_ap, si_ap, reduceIte, Nat.reduceEqDiff] at er_5
      refine g_iconst C dX10_addMark_30 (v := (-1)) (by decide) ?_
      refine g_icmp_eq C dX10_addMark_31 (tgt := 44) (by decide) (fun c_31 => ?_) (fun c_31 => ?_)
      · try simp only [sa_ap, si_ap, reduceIte, Nat.reduceEqDiff, up_us, lg_cmp_lt, lg_cmp_gt, lg_cmp_le, lg_cmp_ge] at c_31
        refine g_aload_n C dX10_addMark_44 0 rfl ?_
        refine gf_X10_steps C tw324 dX10_addMark_45 ?_
        refine g_iload_n C dX10_addMark_48 3 rfl ?_
        refine g_callViW C dX10_addMark_49 (c_X8_haveAll _ _ _ _ _ _ _ _ _ _) tw621 tw622 tw623 tw3 tw624 (rv_X8 C) rfl ⟨by decide +kernel, by decide +kernel, rfl⟩ ⟨rfl, rfl⟩ (by rw [hR]; decide) (Nat.le_of_ble_eq_true rfl) (by rw [hR]; decide) (fun r_7 X1 M1 K1 h_8 => ?_)
        obtain ⟨er_7, hX1, hM1, hK1⟩ := h_8
        subst X1 M1 K1
        try simp only [sa_ap, si_ap, reduceIte, Nat.reduceEqDiff] at er_7
        refine g_if_ne C dX10_addMark_52 (tgt := 65) (by decide) (fun c_52 => ?_) (fun c_52 => ?_)
        · try simp only [sa_ap, si_ap, reduceIte, Nat.reduceEqDiff, up_us, lg_cmp_lt, lg_cmp_gt, lg_cmp_le, lg_cmp_ge] at c_52
          refine g_aload_n C dX10_addMark_65 0 rfl ?_
          refine gf_X10_marks C tw325 dX10_addMark_66 ?_
          refine gf_X5_size C tw113 dX10_addMark_69 ?_
          refine g_topi hz ?_
          refine g_bipush C dX10_addMark_72 (v := 6) (by decide) ?_
          refine g_icmp_ge C dX10_addMark_74 (tgt := 84) (by decide) (fun c_74 => ?_) (fun c_74 => ?_)
          · try simp only [sa_ap, si_ap, reduceIte, Nat.reduceEqDiff, up_us, lg_cmp_lt, lg_cmp_gt, lg_cmp_le, lg_cmp_ge] at c_74
            refine g_throwS C hst ht hQ th_138 th_ot_138 tw563 tw23 (i := 9) ⟨by decide, rfl⟩ dX10_addMark_84 dX10_addMark_87 dX10_addMark_88 dX10_addMark_90 dX10_addMark_93 (by rw [hR]; decide) (by rw [hR]; decide) (by decide) ?_
            exact ⟨(by first | with_reducible rfl | (subst er_1 er_3 er_5 er_7; first | with_reducible rfl | (simp only [sa_ap, si_ap, si_sa, sa_sa, sa_3, sa_4, sa_5, sa_6, sa_7, sa_8, xk_mark, xn, up_us, up_up, c_8, c_19, c_31, c_52, c_74]; done) | (simp [sa_ap, si_ap, si_sa, sa_sa, sa_3, sa_4, sa_5, sa_6, sa_7, sa_8, xk_mark, xn, up_us, up_up, c_8, c_19, c_31, c_52, c_74]; done))), (by first | with_reducible rfl | (subst er_1 er_3 er_5 er_7; first | with_reducible rfl | (simp only [sa_ap, si_ap, si_sa, sa_sa, sa_3, sa_4, sa_5, sa_6, sa_7, sa_8, xk_mark, xn, up_us, up_up, c_8, c_19, c_31, c_52, c_74]; done) | (simp [sa_ap, si_ap, si_sa, sa_sa, sa_3, sa_4, sa_5, sa_6, sa_7, sa_8, xk_mark, xn, up_us, up_up, c_8, c_19, c_31, c_52, c_74]; done))), (by first | with_reducible rfl | (subst er_1 er_3 er_5 er_7; first | with_reducible rfl | (simp only [sa_ap, si_ap, si_sa, sa_sa, sa_3, sa_4, sa_5, sa_6, sa_7, sa_8, xk_mark, xn, up_us, up_up, c_8, c_19, c_31, c_52, c_74]; done) | (simp [sa_ap, si_ap, si_sa, sa_sa, sa_3, sa_4, sa_5, sa_6, sa_7, sa_8, xk_mark, xn, up_us, up_up, c_8, c_19, c_31, c_52, c_74]; done))), rfl, rfl⟩
          · try simp only [sa_ap, si_ap, reduceIte, Nat.reduceEqDiff, up_us, lg_cmp_lt, lg_cmp_gt, lg_cmp_le, lg_cmp_ge] at c_74
            have hlt : z < 6 := Nat.lt_of_le_of_ne hzl (fun q => c_74 (by rw [q]; decide))
            refine g_aload_n C dX10_addMark_77 0 rfl ?_
            refine g_callViW C dX10_addMark_78 (c_X10_isPlanFixed _ _ _ _ _ _ _ _ _ ) tw551 tw553 tp3 tw1 tw554 (rv_X10 C) rfl ⟨by decide +kernel, by decide +kernel, rfl⟩ ⟨rfl, rfl⟩ (by rw [hR]; decide) (Nat.le_of_ble_eq_true rfl) (by rw [hR]; decide) (fun r_9 X1 M1 K1 h_10 => ?_)
            obtain ⟨er_9, hX1, hM1, hK1⟩ := h_10
            subst X1 M1 K1
            try simp only [sa_ap, si_ap, reduceIte, Nat.reduceEqDiff] at er_9
            refine g_if_eq C dX10_addMark_81 (tgt := 94) (by decide) (fun c_81 => ?_) (fun c_81 => ?_)
            · try simp only [sa_ap, si_ap, reduceIte, Nat.reduceEqDiff, up_us, lg_cmp_lt, lg_cmp_gt, lg_cmp_le, lg_cmp_ge] at c_81
              refine g_aload_n C dX10_addMark_94 0 rfl ?_
              refine gf_X10_marks C tw325 dX10_addMark_95 ?_
              refine g_iload_n C dX10_addMark_98 1 rfl ?_
              refine g_iload_n C dX10_addMark_99 2 rfl ?_
              refine g_iload_n C dX10_addMark_100 3 rfl ?_
              refine g_callVvW C dX10_addMark_101 (c_X5_insert _ _ _ _ _ _ _ _ _ _ _ _ z hz hlt) tw641 tw642 tw643 tw4 tw644 (rv_X5 C) rfl ⟨by decide +kernel, by decide +kernel, rfl⟩ ⟨rfl, rfl⟩ (by rw [hR]; decide) (Nat.le_of_ble_eq_true rfl) (by rw [hR]; decide) (fun X1 M1 K1 h_11 => ?_)
              obtain ⟨hX1, hM1, hK1⟩ := h_11
              subst X1 M1 K1
              refine g_aload_n C dX10_addMark_104 0 rfl ?_
              refine gf_X10_marks C tw325 dX10_addMark_105 ?_
              refine gf_X5_size C tw113 dX10_addMark_108 ?_
              refine g_iretWX C hr hQ (by decide) (by decide) dX10_addMark_111 ?_
              exact ⟨(by first | with_reducible rfl | (subst er_1 er_3 er_5 er_7 er_9; first | with_reducible rfl | (simp only [sa_ap, si_ap, si_sa, sa_sa, sa_3, sa_4, sa_5, sa_6, sa_7, sa_8, xk_mark, xn, up_us, up_up, c_8, c_19, c_31, c_52, c_74, c_81]; done) | (simp [sa_ap, si_ap, si_sa, sa_sa, sa_3, sa_4, sa_5, sa_6, sa_7, sa_8, xk_mark, xn, up_us, up_up, c_8, c_19, c_31, c_52, c_74, c_81]; done))), (by first | with_reducible rfl | (subst er_1 er_3 er_5 er_7 er_9; first | with_reducible rfl | (simp only [sa_ap, si_ap, si_sa, sa_sa, sa_3, sa_4, sa_5, sa_6, sa_7, sa_8, xk_mark, xn, up_us, up_up, c_8, c_19, c_31, c_52, c_74, c_81]; done) | (simp [sa_ap, si_ap, si_sa, sa_sa, sa_3, sa_4, sa_5, sa_6, sa_7, sa_8, xk_mark, xn, up_us, up_up, c_8, c_19, c_31, c_52, c_74, c_81]; done))), (by first | with_reducible rfl | (subst er_1 er_3 er_5 er_7 er_9; first | with_reducible rfl | (simp only [sa_ap, si_ap, si_sa, sa_sa, sa_3, sa_4, sa_5, sa_6, sa_7, sa_8, xk_mark, xn, up_us, up_up, c_8, c_19, c_31, c_52, c_74, c_81]; done) | (simp [sa_ap, si_ap, si_sa, sa_sa, sa_3, sa_4, sa_5, sa_6, sa_7, sa_8, xk_mark, xn, up_us, up_up, c_8, c_19, c_31, c_52, c_74, c_81]; done))), rfl, rfl⟩
            · try simp only [sa_ap, si_ap, reduceIte, Nat.reduceEqDiff, up_us, lg_cmp_lt, lg_cmp_gt, lg_cmp_le, lg_cmp_ge] at c_81
              refine g_throwS C hst ht hQ th_138 th_ot_138 tw563 tw23 (i := 9) ⟨by decide, rfl⟩ dX10_addMark_84 dX10_addMark_87 dX10_addMark_88 dX10_addMark_90 dX10_addMark_93 (by rw [hR]; decide) (by rw [hR]; decide) (by decide) ?_
              exact ⟨(by first | with_reducible rfl | (subst er_1 er_3 er_5 er_7 er_9; first | with_reducible rfl | (simp only [sa_ap, si_ap, si_sa, sa_sa, sa_3, sa_4, sa_5, sa_6, sa_7, sa_8, xk_mark, xn, up_us, up_up, c_8, c_19, c_31, c_52, c_74, c_81]; done) | (simp [sa_ap, si_ap, si_sa, sa_sa, sa_3, sa_4, sa_5, sa_6, sa_7, sa_8, xk_mark, xn, up_us, up_up, c_8, c_19, c_31, c_52, c_74, c_81]; done))), (by first | with_reducible rfl | (subst er_1 er_3 er_5 er_7 er_9; first | with_reducible rfl | (simp only [sa_ap, si_ap, si_sa, sa_sa, sa_3, sa_4, sa_5, sa_6, sa_7, sa_8, xk_mark, xn, up_us, up_up, c_8, c_19, c_31, c_52, c_74, c_81]; done) | (simp [sa_ap, si_ap, si_sa, sa_sa, sa_3, sa_4, sa_5, sa_6, sa_7, sa_8, xk_mark, xn, up_us, up_up, c_8, c_19, c_31, c_52, c_74, c_81]; done))), (by first | with_reducible rfl | (subst er_1 er_3 er_5 er_7 er_9; first | with_reducible rfl | (simp only [sa_ap, si_ap, si_sa, sa_sa, sa_3, sa_4, sa_5, sa_6, sa_7, sa_8, xk_mark, xn, up_us, up_up, c_8, c_19, c_31, c_52, c_74, c_81]; done) | (simp [sa_ap, si_ap, si_sa, sa_sa, sa_3, sa_4, sa_5, sa_6, sa_7, sa_8, xk_mark, xn, up_us, up_up, c_8, c_19, c_31, c_52, c_74, c_81]; done))), rfl, rfl⟩
        · try simp only [sa_ap, si_ap, reduceIte, Nat.reduceEqDiff, up_us, lg_cmp_lt, lg_cmp_gt, lg_cmp_le, lg_cmp_ge] at c_52
          refine g_throwS C hst ht hQ th_170 th_ot_170 tw625 tw26 (i := 5) ⟨by decide, rfl⟩ dX10_addMark_55 dX10_addMark_58 dX10_addMark_59 dX10_addMark_61 dX10_addMark_64 (by rw [hR]; decide) (by rw [hR]; decide) (by decide) ?_
          exact ⟨(by first | with_reducible rfl | (subst er_1 er_3 er_5 er_7; first | with_reducible rfl | (simp only [sa_ap, si_ap, si_sa, sa_sa, sa_3, sa_4, sa_5, sa_6, sa_7, sa_8, xk_mark, xn, up_us, up_up, c_8, c_19, c_31, c_52]; done) | (simp [sa_ap, si_ap, si_sa, sa_sa, sa_3, sa_4, sa_5, sa_6, sa_7, sa_8, xk_mark, xn, up_us, up_up, c_8, c_19, c_31, c_52]; done))), (by first | with_reducible rfl | (subst er_1 er_3 er_5 er_7; first | with_reducible rfl | (simp only [sa_ap, si_ap, si_sa, sa_sa, sa_3, sa_4, sa_5, sa_6, sa_7, sa_8, xk_mark, xn, up_us, up_up, c_8, c_19, c_31, c_52]; done) | (simp [sa_ap, si_ap, si_sa, sa_sa, sa_3, sa_4, sa_5, sa_6, sa_7, sa_8, xk_mark, xn, up_us, up_up, c_8, c_19, c_31, c_52]; done))), (by first | with_reducible rfl | (subst er_1 er_3 er_5 er_7; first | with_reducible rfl | (simp only [sa_ap, si_ap, si_sa, sa_sa, sa_3, sa_4, sa_5, sa_6, sa_7, sa_8, xk_mark, xn, up_us, up_up, c_8, c_19, c_31, c_52]; done) | (simp [sa_ap, si_ap, si_sa, sa_sa, sa_3, sa_4, sa_5, sa_6, sa_7, sa_8, xk_mark, xn, up_us, up_up, c_8, c_19, c_31, c_52]; done))), rfl, rfl⟩
      · try simp only [sa_ap, si_ap, reduceIte, Nat.reduceEqDiff, up_us, lg_cmp_lt, lg_cmp_gt, lg_cmp_le, lg_cmp_ge] at c_31
        refine g_throwS C hst ht hQ th_103 th_ot_103 tw506 tw21 (i := 8) ⟨by decide, rfl⟩ dX10_addMark_34 dX10_addMark_37 dX10_addMark_38 dX10_addMark_40 dX10_addMark_43 (by rw [hR]; decide) (by rw [hR]; decide) (by decide) ?_
        exact ⟨(by first | with_reducible rfl | (subst er_1 er_3 er_5; first | with_reducible rfl | (simp only [sa_ap, si_ap, si_sa, sa_sa, sa_3, sa_4, sa_5, sa_6, sa_7, sa_8, xk_mark, xn, up_us, up_up, c_8, c_19, c_31]; done) | (simp [sa_ap, si_ap, si_sa, sa_sa, sa_3, sa_4, sa_5, sa_6, sa_7, sa_8, xk_mark, xn, up_us, up_up, c_8, c_19, c_31]; done))), (by first | with_reducible rfl | (subst er_1 er_3 er_5; first | with_reducible rfl | (simp only [sa_ap, si_ap, si_sa, sa_sa, sa_3, sa_4, sa_5, sa_6, sa_7, sa_8, xk_mark, xn, up_us, up_up, c_8, c_19, c_31]; done) | (simp [sa_ap, si_ap, si_sa, sa_sa, sa_3, sa_4, sa_5, sa_6, sa_7, sa_8, xk_mark, xn, up_us, up_up, c_8, c_19, c_31]; done))), (by first | with_reducible rfl | (subst er_1 er_3 er_5; first | with_reducible rfl | (simp only [sa_ap, si_ap, si_sa, sa_sa, sa_3, sa_4, sa_5, sa_6, sa_7, sa_8, xk_mark, xn, up_us, up_up, c_8, c_19, c_31]; done) | (simp [sa_ap, si_ap, si_sa, sa_sa, sa_3, sa_4, sa_5, sa_6, sa_7, sa_8, xk_mark, xn, up_us, up_up, c_8, c_19, c_31]; done))), rfl, rfl⟩

set_option maxHeartbeats 400000 in
set_option maxRecDepth 100000 in
/-- sense.sense -/
theorem c_X10_sense (l : Launch) (D : va_G) (cy : Nat → ClassId) (A : Nat → Prop) (ad sad : Nat → Nat) (X M : XF) (K : KF) (p1 p2 : Int32) (hst : l.stackTraces = false) : vx_Met l yX10_sense (wsA yX10_sense cX10_sense 3 (some .int)) ({ frames := 6, cells := 1, slots := 6, locals := 82 }) (PcW D cy A ad sad X M K [.ref (ad 0), .int p1, .int p2]) (QiW D cy A ad (fun r X1 M1 K1 => xk_sense p1 p2 = 0 ∧ r = sn_tell (X 19) (upd (X 18) p1.toNatClampNeg p2) (p1.toNatClampNeg / 3) ∧ X1 = sa X 18 (upd (X 18) p1.toNatClampNeg p2) ∧ M1 = M ∧ K1 = K)) (XcW D cy A ad (fun E X1 M1 K1 => ¬ xk_sense p1 p2 = 0 ∧ E = xn "java/lang/IllegalArgumentException" "java/lang/IllegalArgumentException" "java/lang/IllegalArgumentException" (xk_sense p1 p2) ∧ X1 = X ∧ M1 = M ∧ K1 = K)) 1 6 A := by
  refine vet_ofW [(0, .ref (ad 0)), (1, .int p1), (2, .int p2)] (by decide +kernel) (Nat.le_of_ble_eq_true rfl) rfl ?_
  intro G C hl hR hL hD hcy hA had hsa hr ht hQ
  subst hD hcy hA had hsa hl
  refine g_iload_n C dX10_sense_0 1 rfl ?_
  refine g_bipush C dX10_sense_1 (v := 9) (by decide) ?_
  refine g_callSiW C dX10_sense_3 (c_X10_isBelow _ _ _ _ _ _ _ _ _ _ _) tw499 tw500 tw1 tw501 rfl ⟨by decide +kernel, by decide +kernel, rfl⟩ ⟨rfl, rfl⟩ (by rw [hR]; decide) (Nat.le_of_ble_eq_true rfl) (by rw [hR]; decide) (fun r_1 X1 M1 K1 h_2 => ?_)
  obtain ⟨er_1, hX1, hM1, hK1⟩ := h_2
  subst X1 M1 K1
  try simp only [sa_ap, si_ap, reduceIte, Nat.reduceEqDiff] at er_1
  refine g_if_eq C dX10_sense_6 (tgt := 22) (by decide) (fun c_6 => ?_) (fun c_6 => ?_)
  · try simp only [sa_ap, si_ap, reduceIte, Nat.reduceEqDiff, up_us, lg_cmp_lt, lg_cmp_gt, lg_cmp_le, lg_cmp_ge] at c_6
    refine g_throwS C hst ht hQ th_103 th_ot_103 tw506 tw21 (i := 3) ⟨by decide, rfl⟩ dX10_sense_22 dX10_sense_25 dX10_sense_26 dX10_sense_28 dX10_sense_31 (by rw [hR]; decide) (by rw [hR]; decide) (by decide) ?_
    exact ⟨(by first | with_reducible rfl | (subst er_1; first | with_reducible rfl | (simp only [sa_ap, si_ap, si_sa, sa_sa, sa_3, sa_4, sa_5, sa_6, sa_7, sa_8, xk_sense, xn, up_us, up_up, c_6]; done) | (simp [sa_ap, si_ap, si_sa, sa_sa, sa_3, sa_4, sa_5, sa_6, sa_7, sa_8, xk_sense, xn, up_us, up_up, c_6]; done))), (by first | with_reducible rfl | (subst er_1; first | with_reducible rfl | (simp only [sa_ap, si_ap, si_sa, sa_sa, sa_3, sa_4, sa_5, sa_6, sa_7, sa_8, xk_sense, xn, up_us, up_up, c_6]; done) | (simp [sa_ap, si_ap, si_sa, sa_sa, sa_3, sa_4, sa_5, sa_6, sa_7, sa_8, xk_sense, xn, up_us, up_up, c_6]; done))), (by first | with_reducible rfl | (subst er_1; first | with_reducible rfl | (simp only [sa_ap, si_ap, si_sa, sa_sa, sa_3, sa_4, sa_5, sa_6, sa_7, sa_8, xk_sense, xn, up_us, up_up, c_6]; done) | (simp [sa_ap, si_ap, si_sa, sa_sa, sa_3, sa_4, sa_5, sa_6, sa_7, sa_8, xk_sense, xn, up_us, up_up, c_6]; done))), rfl, rfl⟩
  · try simp only [sa_ap, si_ap, reduceIte, Nat.reduceEqDiff, up_us, lg_cmp_lt, lg_cmp_gt, lg_cmp_le, lg_cmp_ge] at c_6
    obtain ⟨j, hj, rfl⟩ := bel_ix (p := p1) (s := 9) (n := 9) rfl (by omega) (by rw [← er_1]; exact c_6)
    have c_clj : (nI j).toNatClampNeg = j := nI_clamp (by omega)
    refine g_iload_n C dX10_sense_9 2 rfl ?_
    refine g_sipush C dX10_sense_10 (v := (-9999)) (by decide) ?_
    refine g_sipush C dX10_sense_13 (v := 9999) (by decide) ?_
    refine g_callSiW C dX10_sense_16 (c_X10_isWithin _ _ _ _ _ _ _ _ _ _ _ _) tw503 tw504 tw1 tw505 rfl ⟨by decide +kernel, by decide +kernel, rfl⟩ ⟨rfl, rfl⟩ (by rw [hR]; decide) (Nat.le_of_ble_eq_true rfl) (by rw [hR]; decide) (fun r_3 X1 M1 K1 h_4 => ?_)
    obtain ⟨er_3, hX1, hM1, hK1⟩ := h_4
    subst X1 M1 K1
    try simp only [sa_ap, si_ap, reduceIte, Nat.reduceEqDiff] at er_3
    refine g_if_ne C dX10_sense_19 (tgt := 32) (by decide) (fun c_19 => ?_) (fun c_19 => ?_)
    · try simp only [sa_ap, si_ap, reduceIte, Nat.reduceEqDiff, up_us, lg_cmp_lt, lg_cmp_gt, lg_cmp_le, lg_cmp_ge] at c_19
      refine g_aload_n C dX10_sense_32 0 rfl ?_
      refine gf_X10_sensors C tw326 dX10_sense_33 ?_
      refine gf_X7_told C tw130 dX10_sense_36 ?_
      refine g_iload_n C dX10_sense_39 1 rfl ?_
      refine g_iload_n C dX10_sense_40 2 rfl ?_
      refine as_18 C (by omega) dX10_sense_41 ?_
      refine g_aload_n C dX10_sense_42 0 rfl ?_
      refine gf_X10_sensors C tw326 dX10_sense_43 ?_
      refine g_iload_n C dX10_sense_46 1 rfl ?_
      refine g_iconst C dX10_sense_47 (v := 3) (by decide) ?_
      refine g_idiv C dX10_sense_48 (by decide) ?_
      refine g_topi (sn_d hj) ?_
      refine g_callViW C dX10_sense_49 (c_X7_tellTogether _ _ _ _ _ _ _ _ _ (j / 3) (by omega)) tw649 tw650 tw651 tw5 tw652 (rv_X7 C) rfl ⟨by decide +kernel, by decide +kernel, rfl⟩ ⟨rfl, rfl⟩ (by rw [hR]; decide) (Nat.le_of_ble_eq_true rfl) (by rw [hR]; decide) (fun r_5 X1 M1 K1 h_6 => ?_)
      obtain ⟨er_5, hX1, hM1, hK1⟩ := h_6
      subst X1 M1 K1
      try simp only [sa_ap, si_ap, reduceIte, Nat.reduceEqDiff] at er_5
      refine g_iretWX C hr hQ (by decide) (by decide) dX10_sense_52 ?_
      exact ⟨(by first | with_reducible rfl | (subst er_1 er_3 er_5; first | with_reducible rfl | (simp only [sa_ap, si_ap, si_sa, sa_sa, sa_3, sa_4, sa_5, sa_6, sa_7, sa_8, xk_sense, xn, up_us, up_up, c_6, c_clj, c_19]; done) | (simp [sa_ap, si_ap, si_sa, sa_sa, sa_3, sa_4, sa_5, sa_6, sa_7, sa_8, xk_sense, xn, up_us, up_up, c_6, c_clj, c_19]; done))), (by first | with_reducible rfl | (subst er_1 er_3 er_5; first | with_reducible rfl | (simp only [sa_ap, si_ap, si_sa, sa_sa, sa_3, sa_4, sa_5, sa_6, sa_7, sa_8, xk_sense, xn, up_us, up_up, c_6, c_clj, c_19]; done) | (simp [sa_ap, si_ap, si_sa, sa_sa, sa_3, sa_4, sa_5, sa_6, sa_7, sa_8, xk_sense, xn, up_us, up_up, c_6, c_clj, c_19]; done))), (by first | with_reducible rfl | (subst er_1 er_3 er_5; first | with_reducible rfl | (simp only [sa_ap, si_ap, si_sa, sa_sa, sa_3, sa_4, sa_5, sa_6, sa_7, sa_8, xk_sense, xn, up_us, up_up, c_6, c_clj, c_19]; done) | (simp [sa_ap, si_ap, si_sa, sa_sa, sa_3, sa_4, sa_5, sa_6, sa_7, sa_8, xk_sense, xn, up_us, up_up, c_6, c_clj, c_19]; done))), rfl, rfl⟩
    · try simp only [sa_ap, si_ap, reduceIte, Nat.reduceEqDiff, up_us, lg_cmp_lt, lg_cmp_gt, lg_cmp_le, lg_cmp_ge] at c_19
      refine g_throwS C hst ht hQ th_103 th_ot_103 tw506 tw21 (i := 3) ⟨by decide, rfl⟩ dX10_sense_22 dX10_sense_25 dX10_sense_26 dX10_sense_28 dX10_sense_31 (by rw [hR]; decide) (by rw [hR]; decide) (by decide) ?_
      exact ⟨(by first | with_reducible rfl | (subst er_1 er_3; first | with_reducible rfl | (simp only [sa_ap, si_ap, si_sa, sa_sa, sa_3, sa_4, sa_5, sa_6, sa_7, sa_8, xk_sense, xn, up_us, up_up, c_6, c_clj, c_19]; done) | (simp [sa_ap, si_ap, si_sa, sa_sa, sa_3, sa_4, sa_5, sa_6, sa_7, sa_8, xk_sense, xn, up_us, up_up, c_6, c_clj, c_19]; done))), (by first | with_reducible rfl | (subst er_1 er_3; first | with_reducible rfl | (simp only [sa_ap, si_ap, si_sa, sa_sa, sa_3, sa_4, sa_5, sa_6, sa_7, sa_8, xk_sense, xn, up_us, up_up, c_6, c_clj, c_19]; done) | (simp [sa_ap, si_ap, si_sa, sa_sa, sa_3, sa_4, sa_5, sa_6, sa_7, sa_8, xk_sense, xn, up_us, up_up, c_6, c_clj, c_19]; done))), (by first | with_reducible rfl | (subst er_1 er_3; first | with_reducible rfl | (simp only [sa_ap, si_ap, si_sa, sa_sa, sa_3, sa_4, sa_5, sa_6, sa_7, sa_8, xk_sense, xn, up_us, up_up, c_6, c_clj, c_19]; done) | (simp [sa_ap, si_ap, si_sa, sa_sa, sa_3, sa_4, sa_5, sa_6, sa_7, sa_8, xk_sense, xn, up_us, up_up, c_6, c_clj, c_19]; done))), rfl, rfl⟩

set_option maxHeartbeats 400000 in
set_option maxRecDepth 100000 in
/-- inhibit.inhibit -/
theorem c_X10_inhibit (l : Launch) (D : va_G) (cy : Nat → ClassId) (A : Nat → Prop) (ad sad : Nat → Nat) (X M : XF) (K : KF) (p1 p2 : Int32) (h2 : isBo p2) (hst : l.stackTraces = false) : vx_Met l yX10_inhibit (wsA yX10_inhibit cX10_inhibit 3 (some .int)) ({ frames := 6, cells := 1, slots := 6, locals := 82 }) (PcW D cy A ad sad X M K [.ref (ad 0), .int p1, .int p2]) (QiW D cy A ad (fun r X1 M1 K1 => xk_inh (X 19) p1 p2 = 0 ∧ r = sn_cnt (upd (X 19) p1.toNatClampNeg p2) (p1.toNatClampNeg / 3) 3 ∧ X1 = sa X 19 (upd (X 19) p1.toNatClampNeg p2) ∧ M1 = M ∧ K1 = K)) (XcW D cy A ad (fun E X1 M1 K1 => ¬ xk_inh (X 19) p1 p2 = 0 ∧ E = xn "java/lang/IllegalArgumentException" "java/lang/UnsupportedOperationException" "java/lang/UnsupportedOperationException" (xk_inh (X 19) p1 p2) ∧ X1 = X ∧ M1 = M ∧ K1 = K)) 1 6 A := by
  refine vet_ofW [(0, .ref (ad 0)), (1, .int p1), (2, .int p2)] (by decide +kernel) (Nat.le_of_ble_eq_true rfl) rfl ?_
  intro G C hl hR hL hD hcy hA had hsa hr ht hQ
  subst hD hcy hA had hsa hl
  refine g_iload_n C dX10_inhibit_0 1 rfl ?_
  refine g_bipush C dX10_inhibit_1 (v := 9) (by decide) ?_
  refine g_callSiW C dX10_inhibit_3 (c_X10_isBelow _ _ _ _ _ _ _ _ _ _ _) tw499 tw500 tw1 tw501 rfl ⟨by decide +kernel, by decide +kernel, rfl⟩ ⟨rfl, rfl⟩ (by rw [hR]; decide) (Nat.le_of_ble_eq_true rfl) (by rw [hR]; decide) (fun r_1 X1 M1 K1 h_2 => ?_)
  obtain ⟨er_1, hX1, hM1, hK1⟩ := h_2
  subst X1 M1 K1
  try simp only [sa_ap, si_ap, reduceIte, Nat.reduceEqDiff] at er_1
  refine g_if_ne C dX10_inhibit_6 (tgt := 19) (by decide) (fun c_6 => ?_) (fun c_6 => ?_)
  · try simp only [sa_ap, si_ap, reduceIte, Nat.reduceEqDiff, up_us, lg_cmp_lt, lg_cmp_gt, lg_cmp_le, lg_cmp_ge] at c_6
    obtain ⟨j, hj, rfl⟩ := bel_ix (p := p1) (s := 9) (n := 9) rfl (by omega) (by rw [← er_1]; exact c_6)
    have c_clj : (nI j).toNatClampNeg = j := nI_clamp (by omega)
    refine g_iload_n C dX10_inhibit_19 2 rfl ?_
    refine g_if_eq C dX10_inhibit_20 (tgt := 44) (by decide) (fun c_20 => ?_) (fun c_20 => ?_)
    · try simp only [sa_ap, si_ap, reduceIte, Nat.reduceEqDiff, up_us, lg_cmp_lt, lg_cmp_gt, lg_cmp_le, lg_cmp_ge] at c_20
      refine g_aload_n C dX10_inhibit_44 0 rfl ?_
      refine gf_X10_sensors C tw326 dX10_inhibit_45 ?_
      refine gf_X7_isOut C tw132 dX10_inhibit_48 ?_
      refine g_iload_n C dX10_inhibit_51 1 rfl ?_
      refine g_iload_n C dX10_inhibit_52 2 rfl ?_
      refine as_19 C (by first | exact isBo_0 | exact isBo_1 | assumption) (by omega) dX10_inhibit_53 ?_
      refine g_aload_n C dX10_inhibit_54 0 rfl ?_
      refine gf_X10_sensors C tw326 dX10_inhibit_55 ?_
      refine g_iload_n C dX10_inhibit_58 1 rfl ?_
      refine g_iconst C dX10_inhibit_59 (v := 3) (by decide) ?_
      refine g_idiv C dX10_inhibit_60 (by decide) ?_
      refine g_topi (sn_d hj) ?_
      refine g_callViW C dX10_inhibit_61 (c_X7_countThatCount _ _ _ _ _ _ _ _ _ (j / 3) (by omega)) tw671 tw654 tw655 tw5 tw656 (rv_X7 C) rfl ⟨by decide +kernel, by decide +kernel, rfl⟩ ⟨rfl, rfl⟩ (by rw [hR]; decide) (Nat.le_of_ble_eq_true rfl) (by rw [hR]; decide) (fun r_3 X1 M1 K1 h_4 => ?_)
      obtain ⟨er_3, hX1, hM1, hK1⟩ := h_4
      subst X1 M1 K1
      try simp only [sa_ap, si_ap, reduceIte, Nat.reduceEqDiff] at er_3
      refine g_iretWX C hr hQ (by decide) (by decide) dX10_inhibit_64 ?_
      exact ⟨(by first | with_reducible rfl | (subst er_1 er_3; first | with_reducible rfl | (simp only [sa_ap, si_ap, si_sa, sa_sa, sa_3, sa_4, sa_5, sa_6, sa_7, sa_8, xk_inh, xn, sn_last, up_us, up_up, c_6, c_clj, c_20]; done) | (simp [sa_ap, si_ap, si_sa, sa_sa, sa_3, sa_4, sa_5, sa_6, sa_7, sa_8, xk_inh, xn, sn_last, up_us, up_up, c_6, c_clj, c_20]; done))), (by first | with_reducible rfl | (subst er_1 er_3; first | with_reducible rfl | (simp only [sa_ap, si_ap, si_sa, sa_sa, sa_3, sa_4, sa_5, sa_6, sa_7, sa_8, xk_inh, xn, sn_last, up_us, up_up, c_6, c_clj, c_20]; done) | (simp [sa_ap, si_ap, si_sa, sa_sa, sa_3, sa_4, sa_5, sa_6, sa_7, sa_8, xk_inh, xn, sn_last, up_us, up_up, c_6, c_clj, c_20]; done))), (by first | with_reducible rfl | (subst er_1 er_3; first | with_reducible rfl | (simp only [sa_ap, si_ap, si_sa, sa_sa, sa_3, sa_4, sa_5, sa_6, sa_7, sa_8, xk_inh, xn, sn_last, up_us, up_up, c_6, c_clj, c_20]; done) | (simp [sa_ap, si_ap, si_sa, sa_sa, sa_3, sa_4, sa_5, sa_6, sa_7, sa_8, xk_inh, xn, sn_last, up_us, up_up, c_6, c_clj, c_20]; done))), rfl, rfl⟩
    · try simp only [sa_ap, si_ap, reduceIte, Nat.reduceEqDiff, up_us, lg_cmp_lt, lg_cmp_gt, lg_cmp_le, lg_cmp_ge] at c_20
      refine g_aload_n C dX10_inhibit_23 0 rfl ?_
      refine gf_X10_sensors C tw326 dX10_inhibit_24 ?_
      refine g_iload_n C dX10_inhibit_27 1 rfl ?_
      refine g_callViW C dX10_inhibit_28 (c_X7_isLastOfThree _ _ _ _ _ _ _ _ _ j hj) tw666 tw667 tw668 tw5 tw669 (rv_X7 C) rfl ⟨by decide +kernel, by decide +kernel, rfl⟩ ⟨rfl, rfl⟩ (by rw [hR]; decide) (Nat.le_of_ble_eq_true rfl) (by rw [hR]; decide) (fun r_5 X1 M1 K1 h_6 => ?_)
      obtain ⟨er_5, hX1, hM1, hK1⟩ := h_6
      subst X1 M1 K1
      try simp only [sa_ap, si_ap, reduceIte, Nat.reduceEqDiff] at er_5
      refine g_if_eq C dX10_inhibit_31 (tgt := 44) (by decide) (fun c_31 => ?_) (fun c_31 => ?_)
      · try simp only [sa_ap, si_ap, reduceIte, Nat.reduceEqDiff, up_us, lg_cmp_lt, lg_cmp_gt, lg_cmp_le, lg_cmp_ge] at c_31
        refine g_aload_n C dX10_inhibit_44 0 rfl ?_
        refine gf_X10_sensors C tw326 dX10_inhibit_45 ?_
        refine gf_X7_isOut C tw132 dX10_inhibit_48 ?_
        refine g_iload_n C dX10_inhibit_51 1 rfl ?_
        refine g_iload_n C dX10_inhibit_52 2 rfl ?_
        refine as_19 C (by first | exact isBo_0 | exact isBo_1 | assumption) (by omega) dX10_inhibit_53 ?_
        refine g_aload_n C dX10_inhibit_54 0 rfl ?_
        refine gf_X10_sensors C tw326 dX10_inhibit_55 ?_
        refine g_iload_n C dX10_inhibit_58 1 rfl ?_
        refine g_iconst C dX10_inhibit_59 (v := 3) (by decide) ?_
        refine g_idiv C dX10_inhibit_60 (by decide) ?_
        refine g_topi (sn_d hj) ?_
        refine g_callViW C dX10_inhibit_61 (c_X7_countThatCount _ _ _ _ _ _ _ _ _ (j / 3) (by omega)) tw671 tw654 tw655 tw5 tw656 (rv_X7 C) rfl ⟨by decide +kernel, by decide +kernel, rfl⟩ ⟨rfl, rfl⟩ (by rw [hR]; decide) (Nat.le_of_ble_eq_true rfl) (by rw [hR]; decide) (fun r_7 X1 M1 K1 h_8 => ?_)
        obtain ⟨er_7, hX1, hM1, hK1⟩ := h_8
        subst X1 M1 K1
        try simp only [sa_ap, si_ap, reduceIte, Nat.reduceEqDiff] at er_7
        refine g_iretWX C hr hQ (by decide) (by decide) dX10_inhibit_64 ?_
        exact ⟨(by first | with_reducible rfl | (subst er_1 er_5 er_7; first | with_reducible rfl | (simp only [sa_ap, si_ap, si_sa, sa_sa, sa_3, sa_4, sa_5, sa_6, sa_7, sa_8, xk_inh, xn, sn_last, up_us, up_up, c_6, c_clj, c_20, c_31]; done) | (simp [sa_ap, si_ap, si_sa, sa_sa, sa_3, sa_4, sa_5, sa_6, sa_7, sa_8, xk_inh, xn, sn_last, up_us, up_up, c_6, c_clj, c_20, c_31]; done))), (by first | with_reducible rfl | (subst er_1 er_5 er_7; first | with_reducible rfl | (simp only [sa_ap, si_ap, si_sa, sa_sa, sa_3, sa_4, sa_5, sa_6, sa_7, sa_8, xk_inh, xn, sn_last, up_us, up_up, c_6, c_clj, c_20, c_31]; done) | (simp [sa_ap, si_ap, si_sa, sa_sa, sa_3, sa_4, sa_5, sa_6, sa_7, sa_8, xk_inh, xn, sn_last, up_us, up_up, c_6, c_clj, c_20, c_31]; done))), (by first | with_reducible rfl | (subst er_1 er_5 er_7; first | with_reducible rfl | (simp only [sa_ap, si_ap, si_sa, sa_sa, sa_3, sa_4, sa_5, sa_6, sa_7, sa_8, xk_inh, xn, sn_last, up_us, up_up, c_6, c_clj, c_20, c_31]; done) | (simp [sa_ap, si_ap, si_sa, sa_sa, sa_3, sa_4, sa_5, sa_6, sa_7, sa_8, xk_inh, xn, sn_last, up_us, up_up, c_6, c_clj, c_20, c_31]; done))), rfl, rfl⟩
      · try simp only [sa_ap, si_ap, reduceIte, Nat.reduceEqDiff, up_us, lg_cmp_lt, lg_cmp_gt, lg_cmp_le, lg_cmp_ge] at c_31
        refine g_throwS C hst ht hQ th_170 th_ot_170 tw625 tw26 (i := 11) ⟨by decide, rfl⟩ dX10_inhibit_34 dX10_inhibit_37 dX10_inhibit_38 dX10_inhibit_40 dX10_inhibit_43 (by rw [hR]; decide) (by rw [hR]; decide) (by decide) ?_
        exact ⟨(by first | with_reducible rfl | (subst er_1 er_5; first | with_reducible rfl | (simp only [sa_ap, si_ap, si_sa, sa_sa, sa_3, sa_4, sa_5, sa_6, sa_7, sa_8, xk_inh, xn, sn_last, up_us, up_up, c_6, c_clj, c_20, c_31]; done) | (simp [sa_ap, si_ap, si_sa, sa_sa, sa_3, sa_4, sa_5, sa_6, sa_7, sa_8, xk_inh, xn, sn_last, up_us, up_up, c_6, c_clj, c_20, c_31]; done))), (by first | with_reducible rfl | (subst er_1 er_5; first | with_reducible rfl | (simp only [sa_ap, si_ap, si_sa, sa_sa, sa_3, sa_4, sa_5, sa_6, sa_7, sa_8, xk_inh, xn, sn_last, up_us, up_up, c_6, c_clj, c_20, c_31]; done) | (simp [sa_ap, si_ap, si_sa, sa_sa, sa_3, sa_4, sa_5, sa_6, sa_7, sa_8, xk_inh, xn, sn_last, up_us, up_up, c_6, c_clj, c_20, c_31]; done))), (by first | with_reducible rfl | (subst er_1 er_5; first | with_reducible rfl | (simp only [sa_ap, si_ap, si_sa, sa_sa, sa_3, sa_4, sa_5, sa_6, sa_7, sa_8, xk_inh, xn, sn_last, up_us, up_up, c_6, c_clj, c_20, c_31]; done) | (simp [sa_ap, si_ap, si_sa, sa_sa, sa_3, sa_4, sa_5, sa_6, sa_7, sa_8, xk_inh, xn, sn_last, up_us, up_up, c_6, c_clj, c_20, c_31]; done))), rfl, rfl⟩
  · try simp only [sa_ap, si_ap, reduceIte, Nat.reduceEqDiff, up_us, lg_cmp_lt, lg_cmp_gt, lg_cmp_le, lg_cmp_ge] at c_6
    refine g_throwS C hst ht hQ th_103 th_ot_103 tw506 tw21 (i := 10) ⟨by decide, rfl⟩ dX10_inhibit_9 dX10_inhibit_12 dX10_inhibit_13 dX10_inhibit_15 dX10_inhibit_18 (by rw [hR]; decide) (by rw [hR]; decide) (by decide) ?_
    exact ⟨(by first | with_reducible rfl | (subst er_1; first | with_reducible rfl | (simp only [sa_ap, si_ap, si_sa, sa_sa, sa_3, sa_4, sa_5, sa_6, sa_7, sa_8, xk_inh, xn, sn_last, up_us, up_up, c_6]; done) | (simp [sa_ap, si_ap, si_sa, sa_sa, sa_3, sa_4, sa_5, sa_6, sa_7, sa_8, xk_inh, xn, sn_last, up_us, up_up, c_6]; done))), (by first | with_reducible rfl | (subst er_1; first | with_reducible rfl | (simp only [sa_ap, si_ap, si_sa, sa_sa, sa_3, sa_4, sa_5, sa_6, sa_7, sa_8, xk_inh, xn, sn_last, up_us, up_up, c_6]; done) | (simp [sa_ap, si_ap, si_sa, sa_sa, sa_3, sa_4, sa_5, sa_6, sa_7, sa_8, xk_inh, xn, sn_last, up_us, up_up, c_6]; done))), (by first | with_reducible rfl | (subst er_1; first | with_reducible rfl | (simp only [sa_ap, si_ap, si_sa, sa_sa, sa_3, sa_4, sa_5, sa_6, sa_7, sa_8, xk_inh, xn, sn_last, up_us, up_up, c_6]; done) | (simp [sa_ap, si_ap, si_sa, sa_sa, sa_3, sa_4, sa_5, sa_6, sa_7, sa_8, xk_inh, xn, sn_last, up_us, up_up, c_6]; done))), rfl, rfl⟩

set_option maxHeartbeats 400000 in
set_option maxRecDepth 100000 in
/-- setWind.setWind -/
theorem c_X10_setWind (l : Launch) (D : va_G) (cy : Nat → ClassId) (A : Nat → Prop) (ad sad : Nat → Nat) (X M : XF) (K : KF) (p1 : Int32) (hst : l.stackTraces = false) : vx_Met l yX10_setWind (wsA yX10_setWind cX10_setWind 3 (some .int)) ({ frames := 6, cells := 1, slots := 6, locals := 82 }) (PcW D cy A ad sad X M K [.ref (ad 0), .int p1]) (QiW D cy A ad (fun r X1 M1 K1 => xk_w 0 200 p1 = 0 ∧ r = X 100 0 ∧ X1 = si X 100 p1 ∧ M1 = M ∧ K1 = K)) (XcW D cy A ad (fun E X1 M1 K1 => ¬ xk_w 0 200 p1 = 0 ∧ E = xn "java/lang/IllegalArgumentException" "java/lang/IllegalArgumentException" "java/lang/IllegalArgumentException" (xk_w 0 200 p1) ∧ X1 = X ∧ M1 = M ∧ K1 = K)) 1 6 A := by
  refine vet_ofW [(0, .ref (ad 0)), (1, .int p1)] (by decide +kernel) (Nat.le_of_ble_eq_true rfl) rfl ?_
  intro G C hl hR hL hD hcy hA had hsa hr ht hQ
  subst hD hcy hA had hsa hl
  refine g_iload_n C dX10_setWind_0 1 rfl ?_
  refine g_iconst C dX10_setWind_1 (v := 0) (by decide) ?_
  refine g_sipush C dX10_setWind_2 (v := 200) (by decide) ?_
  refine g_callSiW C dX10_setWind_5 (c_X10_isWithin _ _ _ _ _ _ _ _ _ _ _ _) tw503 tw504 tw1 tw505 rfl ⟨by decide +kernel, by decide +kernel, rfl⟩ ⟨rfl, rfl⟩ (by rw [hR]; decide) (Nat.le_of_ble_eq_true rfl) (by rw [hR]; decide) (fun r_1 X1 M1 K1 h_2 => ?_)
  obtain ⟨er_1, hX1, hM1, hK1⟩ := h_2
  subst X1 M1 K1
  try simp only [sa_ap, si_ap, reduceIte, Nat.reduceEqDiff] at er_1
  refine g_if_ne C dX10_setWind_8 (tgt := 21) (by decide) (fun c_8 => ?_) (fun c_8 => ?_)
  · try simp only [sa_ap, si_ap, reduceIte, Nat.reduceEqDiff, up_us, lg_cmp_lt, lg_cmp_gt, lg_cmp_le, lg_cmp_ge] at c_8
    refine g_aload_n C dX10_setWind_21 0 rfl ?_
    refine gf_X10_windNow C tw334 dX10_setWind_22 ?_
    refine g_namei (fun v_3 ev_3 => ?_)
    refine g_istore_n C dX10_setWind_25 (L' := [(2, .int v_3), (0, .ref (gad G 0)), (1, .int p1)]) rfl (by rw [hL]; decide) ?_
    refine g_aload_n C dX10_setWind_26 1 rfl ?_
    refine g_iload_n C dX10_setWind_27 2 rfl ?_
    refine pf_X10_windNow C tw334 dX10_setWind_28 ?_
    refine g_iload_n C dX10_setWind_31 0 rfl ?_
    refine g_iretWX C hr hQ (by decide) (by decide) dX10_setWind_32 ?_
    exact ⟨(by first | with_reducible rfl | (subst er_1 ev_3; first | with_reducible rfl | (simp only [sa_ap, si_ap, si_sa, sa_sa, sa_3, sa_4, sa_5, sa_6, sa_7, sa_8, xk_w, xn, up_us, up_up, c_8]; done) | (simp [sa_ap, si_ap, si_sa, sa_sa, sa_3, sa_4, sa_5, sa_6, sa_7, sa_8, xk_w, xn, up_us, up_up, c_8]; done))), (by first | with_reducible rfl | (subst er_1 ev_3; first | with_reducible rfl | (simp only [sa_ap, si_ap, si_sa, sa_sa, sa_3, sa_4, sa_5, sa_6, sa_7, sa_8, xk_w, xn, up_us, up_up, c_8]; done) | (simp [sa_ap, si_ap, si_sa, sa_sa, sa_3, sa_4, sa_5, sa_6, sa_7, sa_8, xk_w, xn, up_us, up_up, c_8]; done))), (by first | with_reducible rfl | (subst er_1 ev_3; first | with_reducible rfl | (simp only [sa_ap, si_ap, si_sa, sa_sa, sa_3, sa_4, sa_5, sa_6, sa_7, sa_8, xk_w, xn, up_us, up_up, c_8]; done) | (simp [sa_ap, si_ap, si_sa, sa_sa, sa_3, sa_4, sa_5, sa_6, sa_7, sa_8, xk_w, xn, up_us, up_up, c_8]; done))), rfl, rfl⟩
  · try simp only [sa_ap, si_ap, reduceIte, Nat.reduceEqDiff, up_us, lg_cmp_lt, lg_cmp_gt, lg_cmp_le, lg_cmp_ge] at c_8
    refine g_throwS C hst ht hQ th_103 th_ot_103 tw506 tw21 (i := 12) ⟨by decide, rfl⟩ dX10_setWind_11 dX10_setWind_14 dX10_setWind_15 dX10_setWind_17 dX10_setWind_20 (by rw [hR]; decide) (by rw [hR]; decide) (by decide) ?_
    exact ⟨(by first | with_reducible rfl | (subst er_1; first | with_reducible rfl | (simp only [sa_ap, si_ap, si_sa, sa_sa, sa_3, sa_4, sa_5, sa_6, sa_7, sa_8, xk_w, xn, up_us, up_up, c_8]; done) | (simp [sa_ap, si_ap, si_sa, sa_sa, sa_3, sa_4, sa_5, sa_6, sa_7, sa_8, xk_w, xn, up_us, up_up, c_8]; done))), (by first | with_reducible rfl | (subst er_1; first | with_reducible rfl | (simp only [sa_ap, si_ap, si_sa, sa_sa, sa_3, sa_4, sa_5, sa_6, sa_7, sa_8, xk_w, xn, up_us, up_up, c_8]; done) | (simp [sa_ap, si_ap, si_sa, sa_sa, sa_3, sa_4, sa_5, sa_6, sa_7, sa_8, xk_w, xn, up_us, up_up, c_8]; done))), (by first | with_reducible rfl | (subst er_1; first | with_reducible rfl | (simp only [sa_ap, si_ap, si_sa, sa_sa, sa_3, sa_4, sa_5, sa_6, sa_7, sa_8, xk_w, xn, up_us, up_up, c_8]; done) | (simp [sa_ap, si_ap, si_sa, sa_sa, sa_3, sa_4, sa_5, sa_6, sa_7, sa_8, xk_w, xn, up_us, up_up, c_8]; done))), rfl, rfl⟩

set_option maxHeartbeats 400000 in
set_option maxRecDepth 100000 in
/-- strike.strike -/
theorem c_X10_strike (l : Launch) (D : va_G) (cy : Nat → ClassId) (A : Nat → Prop) (ad sad : Nat → Nat) (X M : XF) (K : KF) (p1 : Int32) (t : Nat) (ht0 : X 101 0 = nI t) (htl : t < 2 ^ 31) (hst : l.stackTraces = false) : vx_Met l yX10_strike (wsA yX10_strike cX10_strike 2 (some .int)) ({ frames := 6, cells := 1, slots := 6, locals := 82 }) (PcW D cy A ad sad X M K [.ref (ad 0), .int p1]) (QiW D cy A ad (fun r X1 M1 K1 => xk_w 0 99 p1 = 0 ∧ r = (if 20 < p1 then X 104 0 else X 104 0 + 1) ∧ X1 = (if 20 < p1 then X else si (sa X 21 (upd (X 21) (t % 600) (X 21 (t % 600) + 1))) 104 (X 104 0 + 1)) ∧ M1 = M ∧ K1 = K)) (XcW D cy A ad (fun E X1 M1 K1 => ¬ xk_w 0 99 p1 = 0 ∧ E = xn "java/lang/IllegalArgumentException" "java/lang/IllegalArgumentException" "java/lang/IllegalArgumentException" (xk_w 0 99 p1) ∧ X1 = X ∧ M1 = M ∧ K1 = K)) 1 6 A := by
  refine vet_ofW [(0, .ref (ad 0)), (1, .int p1)] (by decide +kernel) (Nat.le_of_ble_eq_true rfl) rfl ?_
  intro G C hl hR hL hD hcy hA had hsa hr ht hQ
  subst hD hcy hA had hsa hl
  refine g_iload_n C dX10_strike_0 1 rfl ?_
  refine g_iconst C dX10_strike_1 (v := 0) (by decide) ?_
  refine g_bipush C dX10_strike_2 (v := 99) (by decide) ?_
  refine g_callSiW C dX10_strike_4 (c_X10_isWithin _ _ _ _ _ _ _ _ _ _ _ _) tw503 tw504 tw1 tw505 rfl ⟨by decide +kernel, by decide +kernel, rfl⟩ ⟨rfl, rfl⟩ (by rw [hR]; decide) (Nat.le_of_ble_eq_true rfl) (by rw [hR]; decide) (fun r_1 X1 M1 K1 h_2 => ?_)
  obtain ⟨er_1, hX1, hM1, hK1⟩ := h_2
  subst X1 M1 K1
  try simp only [sa_ap, si_ap, reduceIte, Nat.reduceEqDiff] at er_1
  refine g_if_ne C dX10_strike_7 (tgt := 20) (by decide) (fun c_7 => ?_) (fun c_7 => ?_)
  · try simp only [sa_ap, si_ap, reduceIte, Nat.reduceEqDiff, up_us, lg_cmp_lt, lg_cmp_gt, lg_cmp_le, lg_cmp_ge] at c_7
    refine g_iload_n C dX10_strike_20 1 rfl ?_
    refine g_bipush C dX10_strike_21 (v := 20) (by decide) ?_
    refine g_icmp_gt C dX10_strike_23 (tgt := 37) (by decide) (fun c_23 => ?_) (fun c_23 => ?_)
    · try simp only [sa_ap, si_ap, reduceIte, Nat.reduceEqDiff, up_us, lg_cmp_lt, lg_cmp_gt, lg_cmp_le, lg_cmp_ge] at c_23
      refine g_aload_n C dX10_strike_37 0 rfl ?_
      refine gf_X10_lightnings C tw327 dX10_strike_38 ?_
      refine gf_X3_near C tw146 dX10_strike_41 ?_
      refine g_iretWX C hr hQ (by decide) (by decide) dX10_strike_44 ?_
      exact ⟨(by first | with_reducible rfl | (subst er_1; first | with_reducible rfl | (simp only [sa_ap, si_ap, si_sa, sa_sa, sa_3, sa_4, sa_5, sa_6, sa_7, sa_8, xk_w, xn, up_us, up_up, c_7, c_23]; done) | (simp [sa_ap, si_ap, si_sa, sa_sa, sa_3, sa_4, sa_5, sa_6, sa_7, sa_8, xk_w, xn, up_us, up_up, c_7, c_23]; done))), (by first | with_reducible rfl | (subst er_1; first | with_reducible rfl | (simp only [sa_ap, si_ap, si_sa, sa_sa, sa_3, sa_4, sa_5, sa_6, sa_7, sa_8, xk_w, xn, up_us, up_up, c_7, c_23]; done) | (simp [sa_ap, si_ap, si_sa, sa_sa, sa_3, sa_4, sa_5, sa_6, sa_7, sa_8, xk_w, xn, up_us, up_up, c_7, c_23]; done))), (by first | with_reducible rfl | (subst er_1; first | with_reducible rfl | (simp only [sa_ap, si_ap, si_sa, sa_sa, sa_3, sa_4, sa_5, sa_6, sa_7, sa_8, xk_w, xn, up_us, up_up, c_7, c_23]; done) | (simp [sa_ap, si_ap, si_sa, sa_sa, sa_3, sa_4, sa_5, sa_6, sa_7, sa_8, xk_w, xn, up_us, up_up, c_7, c_23]; done))), rfl, rfl⟩
    · try simp only [sa_ap, si_ap, reduceIte, Nat.reduceEqDiff, up_us, lg_cmp_lt, lg_cmp_gt, lg_cmp_le, lg_cmp_ge] at c_23
      refine g_aload_n C dX10_strike_26 0 rfl ?_
      refine gf_X10_lightnings C tw327 dX10_strike_27 ?_
      refine g_aload_n C dX10_strike_30 0 rfl ?_
      refine gf_X10_now C tw335 dX10_strike_31 ?_
      refine g_topi ht0 ?_
      refine g_callVvW C dX10_strike_34 (c_X3_tell _ _ _ _ _ _ _ _ _ t htl) tw682 tw683 tw684 tw6 tw685 (rv_X3 C) rfl ⟨by decide +kernel, by decide +kernel, rfl⟩ ⟨rfl, rfl⟩ (by rw [hR]; decide) (Nat.le_of_ble_eq_true rfl) (by rw [hR]; decide) (fun X1 M1 K1 h_3 => ?_)
      obtain ⟨hX1, hM1, hK1⟩ := h_3
      subst X1 M1 K1
      refine g_aload_n C dX10_strike_37 0 rfl ?_
      refine gf_X10_lightnings C tw327 dX10_strike_38 ?_
      refine gf_X3_near C tw146 dX10_strike_41 ?_
      refine g_iretWX C hr hQ (by decide) (by decide) dX10_strike_44 ?_
      exact ⟨(by first | with_reducible rfl | (subst er_1; first | with_reducible rfl | (simp only [sa_ap, si_ap, si_sa, sa_sa, sa_3, sa_4, sa_5, sa_6, sa_7, sa_8, xk_w, xn, up_us, up_up, c_7, c_23]; done) | (simp [sa_ap, si_ap, si_sa, sa_sa, sa_3, sa_4, sa_5, sa_6, sa_7, sa_8, xk_w, xn, up_us, up_up, c_7, c_23]; done))), (by first | with_reducible rfl | (subst er_1; first | with_reducible rfl | (simp only [sa_ap, si_ap, si_sa, sa_sa, sa_3, sa_4, sa_5, sa_6, sa_7, sa_8, xk_w, xn, up_us, up_up, c_7, c_23]; done) | (simp [sa_ap, si_ap, si_sa, sa_sa, sa_3, sa_4, sa_5, sa_6, sa_7, sa_8, xk_w, xn, up_us, up_up, c_7, c_23]; done))), (by first | with_reducible rfl | (subst er_1; first | with_reducible rfl | (simp only [sa_ap, si_ap, si_sa, sa_sa, sa_3, sa_4, sa_5, sa_6, sa_7, sa_8, xk_w, xn, up_us, up_up, c_7, c_23]; done) | (simp [sa_ap, si_ap, si_sa, sa_sa, sa_3, sa_4, sa_5, sa_6, sa_7, sa_8, xk_w, xn, up_us, up_up, c_7, c_23]; done))), rfl, rfl⟩
  · try simp only [sa_ap, si_ap, reduceIte, Nat.reduceEqDiff, up_us, lg_cmp_lt, lg_cmp_gt, lg_cmp_le, lg_cmp_ge] at c_7
    refine g_throwS C hst ht hQ th_103 th_ot_103 tw506 tw21 (i := 13) ⟨by decide, rfl⟩ dX10_strike_10 dX10_strike_13 dX10_strike_14 dX10_strike_16 dX10_strike_19 (by rw [hR]; decide) (by rw [hR]; decide) (by decide) ?_
    exact ⟨(by first | with_reducible rfl | (subst er_1; first | with_reducible rfl | (simp only [sa_ap, si_ap, si_sa, sa_sa, sa_3, sa_4, sa_5, sa_6, sa_7, sa_8, xk_w, xn, up_us, up_up, c_7]; done) | (simp [sa_ap, si_ap, si_sa, sa_sa, sa_3, sa_4, sa_5, sa_6, sa_7, sa_8, xk_w, xn, up_us, up_up, c_7]; done))), (by first | with_reducible rfl | (subst er_1; first | with_reducible rfl | (simp only [sa_ap, si_ap, si_sa, sa_sa, sa_3, sa_4, sa_5, sa_6, sa_7, sa_8, xk_w, xn, up_us, up_up, c_7]; done) | (simp [sa_ap, si_ap, si_sa, sa_sa, sa_3, sa_4, sa_5, sa_6, sa_7, sa_8, xk_w, xn, up_us, up_up, c_7]; done))), (by first | with_reducible rfl | (subst er_1; first | with_reducible rfl | (simp only [sa_ap, si_ap, si_sa, sa_sa, sa_3, sa_4, sa_5, sa_6, sa_7, sa_8, xk_w, xn, up_us, up_up, c_7]; done) | (simp [sa_ap, si_ap, si_sa, sa_sa, sa_3, sa_4, sa_5, sa_6, sa_7, sa_8, xk_w, xn, up_us, up_up, c_7]; done))), rfl, rfl⟩

set_option maxHeartbeats 400000 in
set_option maxRecDepth 100000 in
/-- boat.boat -/
theorem c_X10_boat (l : Launch) (D : va_G) (cy : Nat → ClassId) (A : Nat → Prop) (ad sad : Nat → Nat) (X M : XF) (K : KF) (p1 p2 p3 : Int32) (hst : l.stackTraces = false) : vx_Met l yX10_boat (wsA yX10_boat cX10_boat 4 (some .int)) ({ frames := 6, cells := 1, slots := 6, locals := 82 }) (PcW D cy A ad sad X M K [.ref (ad 0), .int p1, .int p2, .int p3]) (QiW D cy A ad (fun r X1 M1 K1 => xk_boat p1 p2 p3 = 0 ∧ r = bt_sum (upd (X 23) p1.toNatClampNeg (bt_risk p2 p3)) 8 ∧ X1 = sa X 23 (upd (X 23) p1.toNatClampNeg (bt_risk p2 p3)) ∧ M1 = M ∧ K1 = K)) (XcW D cy A ad (fun E X1 M1 K1 => ¬ xk_boat p1 p2 p3 = 0 ∧ E = xn "java/lang/IllegalArgumentException" "java/lang/IllegalArgumentException" "java/lang/IllegalArgumentException" (xk_boat p1 p2 p3) ∧ X1 = X ∧ M1 = M ∧ K1 = K)) 1 6 A := by
  refine vet_ofW [(0, .ref (ad 0)), (1, .int p1), (2, .int p2), (3, .int p3)] (by decide +kernel) (Nat.le_of_ble_eq_true rfl) rfl ?_
  intro G C hl hR hL hD hcy hA had hsa hr ht hQ
  subst hD hcy hA had hsa hl
  refine g_iload_n C dX10_boat_0 1 rfl ?_
  refine g_bipush C dX10_boat_1 (v := 8) (by decide) ?_
  refine g_callSiW C dX10_boat_3 (c_X10_isBelow _ _ _ _ _ _ _ _ _ _ _) tw499 tw500 tw1 tw501 rfl ⟨by decide +kernel, by decide +kernel, rfl⟩ ⟨rfl, rfl⟩ (by rw [hR]; decide) (Nat.le_of_ble_eq_true rfl) (by rw [hR]; decide) (fun r_1 X1 M1 K1 h_2 => ?_)
  obtain ⟨er_1, hX1, hM1, hK1⟩ := h_2
  subst X1 M1 K1
  try simp only [sa_ap, si_ap, reduceIte, Nat.reduceEqDiff] at er_1
  refine g_if_eq C dX10_boat_6 (tgt := 29) (by decide) (fun c_6 => ?_) (fun c_6 => ?_)
  · try simp only [sa_ap, si_ap, reduceIte, Nat.reduceEqDiff, up_us, lg_cmp_lt, lg_cmp_gt, lg_cmp_le, lg_cmp_ge] at c_6
    refine g_throwS C hst ht hQ th_103 th_ot_103 tw506 tw21 (i := 3) ⟨by decide, rfl⟩ dX10_boat_29 dX10_boat_32 dX10_boat_33 dX10_boat_35 dX10_boat_38 (by rw [hR]; decide) (by rw [hR]; decide) (by decide) ?_
    exact ⟨(by first | with_reducible rfl | (subst er_1; first | with_reducible rfl | (simp only [sa_ap, si_ap, si_sa, sa_sa, sa_3, sa_4, sa_5, sa_6, sa_7, sa_8, xk_boat, xn, up_us, up_up, c_6]; done) | (simp [sa_ap, si_ap, si_sa, sa_sa, sa_3, sa_4, sa_5, sa_6, sa_7, sa_8, xk_boat, xn, up_us, up_up, c_6]; done))), (by first | with_reducible rfl | (subst er_1; first | with_reducible rfl | (simp only [sa_ap, si_ap, si_sa, sa_sa, sa_3, sa_4, sa_5, sa_6, sa_7, sa_8, xk_boat, xn, up_us, up_up, c_6]; done) | (simp [sa_ap, si_ap, si_sa, sa_sa, sa_3, sa_4, sa_5, sa_6, sa_7, sa_8, xk_boat, xn, up_us, up_up, c_6]; done))), (by first | with_reducible rfl | (subst er_1; first | with_reducible rfl | (simp only [sa_ap, si_ap, si_sa, sa_sa, sa_3, sa_4, sa_5, sa_6, sa_7, sa_8, xk_boat, xn, up_us, up_up, c_6]; done) | (simp [sa_ap, si_ap, si_sa, sa_sa, sa_3, sa_4, sa_5, sa_6, sa_7, sa_8, xk_boat, xn, up_us, up_up, c_6]; done))), rfl, rfl⟩
  · try simp only [sa_ap, si_ap, reduceIte, Nat.reduceEqDiff, up_us, lg_cmp_lt, lg_cmp_gt, lg_cmp_le, lg_cmp_ge] at c_6
    obtain ⟨j, hj, rfl⟩ := bel_ix (p := p1) (s := 8) (n := 8) rfl (by omega) (by rw [← er_1]; exact c_6)
    have c_clj : (nI j).toNatClampNeg = j := nI_clamp (by omega)
    refine g_iload_n C dX10_boat_9 2 rfl ?_
    refine g_iconst C dX10_boat_10 (v := 0) (by decide) ?_
    refine g_bipush C dX10_boat_11 (v := 50) (by decide) ?_
    refine g_callSiW C dX10_boat_13 (c_X10_isWithin _ _ _ _ _ _ _ _ _ _ _ _) tw503 tw504 tw1 tw505 rfl ⟨by decide +kernel, by decide +kernel, rfl⟩ ⟨rfl, rfl⟩ (by rw [hR]; decide) (Nat.le_of_ble_eq_true rfl) (by rw [hR]; decide) (fun r_3 X1 M1 K1 h_4 => ?_)
    obtain ⟨er_3, hX1, hM1, hK1⟩ := h_4
    subst X1 M1 K1
    try simp only [sa_ap, si_ap, reduceIte, Nat.reduceEqDiff] at er_3
    refine g_if_eq C dX10_boat_16 (tgt := 29) (by decide) (fun c_16 => ?_) (fun c_16 => ?_)
    · try simp only [sa_ap, si_ap, reduceIte, Nat.reduceEqDiff, up_us, lg_cmp_lt, lg_cmp_gt, lg_cmp_le, lg_cmp_ge] at c_16
      refine g_throwS C hst ht hQ th_103 th_ot_103 tw506 tw21 (i := 3) ⟨by decide, rfl⟩ dX10_boat_29 dX10_boat_32 dX10_boat_33 dX10_boat_35 dX10_boat_38 (by rw [hR]; decide) (by rw [hR]; decide) (by decide) ?_
      exact ⟨(by first | with_reducible rfl | (subst er_1 er_3; first | with_reducible rfl | (simp only [sa_ap, si_ap, si_sa, sa_sa, sa_3, sa_4, sa_5, sa_6, sa_7, sa_8, xk_boat, xn, up_us, up_up, c_6, c_clj, c_16]; done) | (simp [sa_ap, si_ap, si_sa, sa_sa, sa_3, sa_4, sa_5, sa_6, sa_7, sa_8, xk_boat, xn, up_us, up_up, c_6, c_clj, c_16]; done))), (by first | with_reducible rfl | (subst er_1 er_3; first | with_reducible rfl | (simp only [sa_ap, si_ap, si_sa, sa_sa, sa_3, sa_4, sa_5, sa_6, sa_7, sa_8, xk_boat, xn, up_us, up_up, c_6, c_clj, c_16]; done) | (simp [sa_ap, si_ap, si_sa, sa_sa, sa_3, sa_4, sa_5, sa_6, sa_7, sa_8, xk_boat, xn, up_us, up_up, c_6, c_clj, c_16]; done))), (by first | with_reducible rfl | (subst er_1 er_3; first | with_reducible rfl | (simp only [sa_ap, si_ap, si_sa, sa_sa, sa_3, sa_4, sa_5, sa_6, sa_7, sa_8, xk_boat, xn, up_us, up_up, c_6, c_clj, c_16]; done) | (simp [sa_ap, si_ap, si_sa, sa_sa, sa_3, sa_4, sa_5, sa_6, sa_7, sa_8, xk_boat, xn, up_us, up_up, c_6, c_clj, c_16]; done))), rfl, rfl⟩
    · try simp only [sa_ap, si_ap, reduceIte, Nat.reduceEqDiff, up_us, lg_cmp_lt, lg_cmp_gt, lg_cmp_le, lg_cmp_ge] at c_16
      refine g_iload_n C dX10_boat_19 3 rfl ?_
      refine g_iconst C dX10_boat_20 (v := 0) (by decide) ?_
      refine g_bipush C dX10_boat_21 (v := 99) (by decide) ?_
      refine g_callSiW C dX10_boat_23 (c_X10_isWithin _ _ _ _ _ _ _ _ _ _ _ _) tw503 tw504 tw1 tw505 rfl ⟨by decide +kernel, by decide +kernel, rfl⟩ ⟨rfl, rfl⟩ (by rw [hR]; decide) (Nat.le_of_ble_eq_true rfl) (by rw [hR]; decide) (fun r_5 X1 M1 K1 h_6 => ?_)
      obtain ⟨er_5, hX1, hM1, hK1⟩ := h_6
      subst X1 M1 K1
      try simp only [sa_ap, si_ap, reduceIte, Nat.reduceEqDiff] at er_5
      refine g_if_ne C dX10_boat_26 (tgt := 39) (by decide) (fun c_26 => ?_) (fun c_26 => ?_)
      · try simp only [sa_ap, si_ap, reduceIte, Nat.reduceEqDiff, up_us, lg_cmp_lt, lg_cmp_gt, lg_cmp_le, lg_cmp_ge] at c_26
        refine g_aload_n C dX10_boat_39 0 rfl ?_
        refine gf_X10_boats C tw328 dX10_boat_40 ?_
        refine g_iload_n C dX10_boat_43 1 rfl ?_
        refine g_iload_n C dX10_boat_44 2 rfl ?_
        refine g_iload_n C dX10_boat_45 3 rfl ?_
        refine g_callVvW C dX10_boat_46 (c_X0_tell _ _ _ _ _ _ _ _ _ j hj _ _) tw690 tw691 tw692 tw7 tw693 (rv_X0 C) rfl ⟨by decide +kernel, by decide +kernel, rfl⟩ ⟨rfl, rfl⟩ (by rw [hR]; decide) (Nat.le_of_ble_eq_true rfl) (by rw [hR]; decide) (fun X1 M1 K1 h_7 => ?_)
        obtain ⟨hX1, hM1, hK1⟩ := h_7
        subst X1 M1 K1
        refine g_aload_n C dX10_boat_49 0 rfl ?_
        refine gf_X10_boats C tw328 dX10_boat_50 ?_
        refine g_callViW C dX10_boat_53 (c_X0_sumOfRisks _ _ _ _ _ _ _ _ _ ) tw695 tw696 tw697 tw7 tw698 (rv_X0 C) rfl ⟨by decide +kernel, by decide +kernel, rfl⟩ ⟨rfl, rfl⟩ (by rw [hR]; decide) (Nat.le_of_ble_eq_true rfl) (by rw [hR]; decide) (fun r_8 X1 M1 K1 h_9 => ?_)
        obtain ⟨er_8, hX1, hM1, hK1⟩ := h_9
        subst X1 M1 K1
        try simp only [sa_ap, si_ap, reduceIte, Nat.reduceEqDiff] at er_8
        refine g_iretWX C hr hQ (by decide) (by decide) dX10_boat_56 ?_
        exact ⟨(by first | with_reducible rfl | (subst er_1 er_3 er_5 er_8; first | with_reducible rfl | (simp only [sa_ap, si_ap, si_sa, sa_sa, sa_3, sa_4, sa_5, sa_6, sa_7, sa_8, xk_boat, xn, up_us, up_up, c_6, c_clj, c_16, c_26]; done) | (simp [sa_ap, si_ap, si_sa, sa_sa, sa_3, sa_4, sa_5, sa_6, sa_7, sa_8, xk_boat, xn, up_us, up_up, c_6, c_clj, c_16, c_26]; done))), (by first | with_reducible rfl | (subst er_1 er_3 er_5 er_8; first | with_reducible rfl | (simp only [sa_ap, si_ap, si_sa, sa_sa, sa_3, sa_4, sa_5, sa_6, sa_7, sa_8, xk_boat, xn, up_us, up_up, c_6, c_clj, c_16, c_26]; done) | (simp [sa_ap, si_ap, si_sa, sa_sa, sa_3, sa_4, sa_5, sa_6, sa_7, sa_8, xk_boat, xn, up_us, up_up, c_6, c_clj, c_16, c_26]; done))), (by first | with_reducible rfl | (subst er_1 er_3 er_5 er_8; first | with_reducible rfl | (simp only [sa_ap, si_ap, si_sa, sa_sa, sa_3, sa_4, sa_5, sa_6, sa_7, sa_8, xk_boat, xn, up_us, up_up, c_6, c_clj, c_16, c_26]; done) | (simp [sa_ap, si_ap, si_sa, sa_sa, sa_3, sa_4, sa_5, sa_6, sa_7, sa_8, xk_boat, xn, up_us, up_up, c_6, c_clj, c_16, c_26]; done))), rfl, rfl⟩
      · try simp only [sa_ap, si_ap, reduceIte, Nat.reduceEqDiff, up_us, lg_cmp_lt, lg_cmp_gt, lg_cmp_le, lg_cmp_ge] at c_26
        refine g_throwS C hst ht hQ th_103 th_ot_103 tw506 tw21 (i := 3) ⟨by decide, rfl⟩ dX10_boat_29 dX10_boat_32 dX10_boat_33 dX10_boat_35 dX10_boat_38 (by rw [hR]; decide) (by rw [hR]; decide) (by decide) ?_
        exact ⟨(by first | with_reducible rfl | (subst er_1 er_3 er_5; first | with_reducible rfl | (simp only [sa_ap, si_ap, si_sa, sa_sa, sa_3, sa_4, sa_5, sa_6, sa_7, sa_8, xk_boat, xn, up_us, up_up, c_6, c_clj, c_16, c_26]; done) | (simp [sa_ap, si_ap, si_sa, sa_sa, sa_3, sa_4, sa_5, sa_6, sa_7, sa_8, xk_boat, xn, up_us, up_up, c_6, c_clj, c_16, c_26]; done))), (by first | with_reducible rfl | (subst er_1 er_3 er_5; first | with_reducible rfl | (simp only [sa_ap, si_ap, si_sa, sa_sa, sa_3, sa_4, sa_5, sa_6, sa_7, sa_8, xk_boat, xn, up_us, up_up, c_6, c_clj, c_16, c_26]; done) | (simp [sa_ap, si_ap, si_sa, sa_sa, sa_3, sa_4, sa_5, sa_6, sa_7, sa_8, xk_boat, xn, up_us, up_up, c_6, c_clj, c_16, c_26]; done))), (by first | with_reducible rfl | (subst er_1 er_3 er_5; first | with_reducible rfl | (simp only [sa_ap, si_ap, si_sa, sa_sa, sa_3, sa_4, sa_5, sa_6, sa_7, sa_8, xk_boat, xn, up_us, up_up, c_6, c_clj, c_16, c_26]; done) | (simp [sa_ap, si_ap, si_sa, sa_sa, sa_3, sa_4, sa_5, sa_6, sa_7, sa_8, xk_boat, xn, up_us, up_up, c_6, c_clj, c_16, c_26]; done))), rfl, rfl⟩

set_option maxHeartbeats 400000 in
set_option maxRecDepth 100000 in
/-- addRule.addRule -/
theorem c_X10_addRule (l : Launch) (D : va_G) (cy : Nat → ClassId) (A : Nat → Prop) (ad sad : Nat → Nat) (X M : XF) (K : KF) (p1 p2 p3 p4 p5 : Int32) (h1 : isCh p1) (z : Nat) (hz : X 105 0 = nI z) (hzl : z ≤ 12) (hst : l.stackTraces = false) : vx_Met l yX10_addRule (wsA yX10_addRule cX10_addRule 6 (some .int)) ({ frames := 6, cells := 1, slots := 6, locals := 82 }) (PcW D cy A ad sad X M K [.ref (ad 0), .int p1, .int p2, .int p3, .int p4, .int p5]) (QiW D cy A ad (fun r X1 M1 K1 => xk_rule (nI z) p1 p2 p3 p4 p5 = 0 ∧ r = nI z ∧ X1 = si (sa (sa (sa (sa (sa (sa X 25 (upd (X 25) z p1)) 26 (upd (X 26) z p2)) 27 (upd (X 27) z p3)) 28 (upd (X 28) z p4)) 29 (upd (X 29) z p5)) 33 (upd (X 33) z (-1))) 105 (nI z + 1) ∧ M1 = M ∧ K1 = K)) (XcW D cy A ad (fun E X1 M1 K1 => ¬ xk_rule (nI z) p1 p2 p3 p4 p5 = 0 ∧ E = xn "java/lang/IllegalArgumentException" "java/lang/IllegalStateException" "java/lang/IllegalStateException" (xk_rule (nI z) p1 p2 p3 p4 p5) ∧ X1 = X ∧ M1 = M ∧ K1 = K)) 1 6 A := by
  refine vet_ofW [(0, .ref (ad 0)), (1, .int p1), (2, .int p2), (3, .int p3), (4, .int p4), (5, .int p5)] (by decide +kernel) (Nat.le_of_ble_eq_true rfl) rfl ?_
  intro G C hl hR hL hD hcy hA had hsa hr ht hQ
  subst hD hcy hA had hsa hl
  refine g_iload_n C dX10_addRule_0 1 rfl ?_
  refine g_iload_n C dX10_addRule_1 2 rfl ?_
  refine g_callSiW C dX10_addRule_2 (c_X10_isThing _ _ _ _ _ _ _ _ _ _ _) tw703 tw704 tw1 tw705 rfl ⟨by decide +kernel, by decide +kernel, rfl⟩ ⟨rfl, rfl⟩ (by rw [hR]; decide) (Nat.le_of_ble_eq_true rfl) (by rw [hR]; decide) (fun r_1 X1 M1 K1 h_2 => ?_)
  obtain ⟨er_1, hX1, hM1, hK1⟩ := h_2
  subst X1 M1 K1
  try simp only [sa_ap, si_ap, reduceIte, Nat.reduceEqDiff] at er_1
  refine g_if_eq C dX10_addRule_5 (tgt := 26) (by decide) (fun c_5 => ?_) (fun c_5 => ?_)
  · try simp only [sa_ap, si_ap, reduceIte, Nat.reduceEqDiff, up_us, lg_cmp_lt, lg_cmp_gt, lg_cmp_le, lg_cmp_ge] at c_5
    refine g_throwS C hst ht hQ th_103 th_ot_103 tw506 tw21 (i := 14) ⟨by decide, rfl⟩ dX10_addRule_26 dX10_addRule_29 dX10_addRule_30 dX10_addRule_32 dX10_addRule_35 (by rw [hR]; decide) (by rw [hR]; decide) (by decide) ?_
    exact ⟨(by first | with_reducible rfl | (subst er_1; first | with_reducible rfl | (simp only [sa_ap, si_ap, si_sa, sa_sa, sa_3, sa_4, sa_5, sa_6, sa_7, sa_8, xk_rule, xn, up_us, up_up, c_5]; done) | (simp [sa_ap, si_ap, si_sa, sa_sa, sa_3, sa_4, sa_5, sa_6, sa_7, sa_8, xk_rule, xn, up_us, up_up, c_5]; done))), (by first | with_reducible rfl | (subst er_1; first | with_reducible rfl | (simp only [sa_ap, si_ap, si_sa, sa_sa, sa_3, sa_4, sa_5, sa_6, sa_7, sa_8, xk_rule, xn, up_us, up_up, c_5]; done) | (simp [sa_ap, si_ap, si_sa, sa_sa, sa_3, sa_4, sa_5, sa_6, sa_7, sa_8, xk_rule, xn, up_us, up_up, c_5]; done))), (by first | with_reducible rfl | (subst er_1; first | with_reducible rfl | (simp only [sa_ap, si_ap, si_sa, sa_sa, sa_3, sa_4, sa_5, sa_6, sa_7, sa_8, xk_rule, xn, up_us, up_up, c_5]; done) | (simp [sa_ap, si_ap, si_sa, sa_sa, sa_3, sa_4, sa_5, sa_6, sa_7, sa_8, xk_rule, xn, up_us, up_up, c_5]; done))), rfl, rfl⟩
  · try simp only [sa_ap, si_ap, reduceIte, Nat.reduceEqDiff, up_us, lg_cmp_lt, lg_cmp_gt, lg_cmp_le, lg_cmp_ge] at c_5
    refine g_iload_n C dX10_addRule_8 3 rfl ?_
    refine g_iload C dX10_addRule_9 4 rfl ?_
    refine g_icmp_gt C dX10_addRule_11 (tgt := 26) (by decide) (fun c_11 => ?_) (fun c_11 => ?_)
    · try simp only [sa_ap, si_ap, reduceIte, Nat.reduceEqDiff, up_us, lg_cmp_lt, lg_cmp_gt, lg_cmp_le, lg_cmp_ge] at c_11
      refine g_throwS C hst ht hQ th_103 th_ot_103 tw506 tw21 (i := 14) ⟨by decide, rfl⟩ dX10_addRule_26 dX10_addRule_29 dX10_addRule_30 dX10_addRule_32 dX10_addRule_35 (by rw [hR]; decide) (by rw [hR]; decide) (by decide) ?_
      exact ⟨(by first | with_reducible rfl | (subst er_1; first | with_reducible rfl | (simp only [sa_ap, si_ap, si_sa, sa_sa, sa_3, sa_4, sa_5, sa_6, sa_7, sa_8, xk_rule, xn, up_us, up_up, c_5, c_11]; done) | (simp [sa_ap, si_ap, si_sa, sa_sa, sa_3, sa_4, sa_5, sa_6, sa_7, sa_8, xk_rule, xn, up_us, up_up, c_5, c_11]; done))), (by first | with_reducible rfl | (subst er_1; first | with_reducible rfl | (simp only [sa_ap, si_ap, si_sa, sa_sa, sa_3, sa_4, sa_5, sa_6, sa_7, sa_8, xk_rule, xn, up_us, up_up, c_5, c_11]; done) | (simp [sa_ap, si_ap, si_sa, sa_sa, sa_3, sa_4, sa_5, sa_6, sa_7, sa_8, xk_rule, xn, up_us, up_up, c_5, c_11]; done))), (by first | with_reducible rfl | (subst er_1; first | with_reducible rfl | (simp only [sa_ap, si_ap, si_sa, sa_sa, sa_3, sa_4, sa_5, sa_6, sa_7, sa_8, xk_rule, xn, up_us, up_up, c_5, c_11]; done) | (simp [sa_ap, si_ap, si_sa, sa_sa, sa_3, sa_4, sa_5, sa_6, sa_7, sa_8, xk_rule, xn, up_us, up_up, c_5, c_11]; done))), rfl, rfl⟩
    · try simp only [sa_ap, si_ap, reduceIte, Nat.reduceEqDiff, up_us, lg_cmp_lt, lg_cmp_gt, lg_cmp_le, lg_cmp_ge] at c_11
      refine g_iload C dX10_addRule_14 5 rfl ?_
      refine g_iconst C dX10_addRule_16 (v := 0) (by decide) ?_
      refine g_sipush C dX10_addRule_17 (v := 300) (by decide) ?_
      refine g_callSiW C dX10_addRule_20 (c_X10_isWithin _ _ _ _ _ _ _ _ _ _ _ _) tw503 tw504 tw1 tw505 rfl ⟨by decide +kernel, by decide +kernel, rfl⟩ ⟨rfl, rfl⟩ (by rw [hR]; decide) (Nat.le_of_ble_eq_true rfl) (by rw [hR]; decide) (fun r_3 X1 M1 K1 h_4 => ?_)
      obtain ⟨er_3, hX1, hM1, hK1⟩ := h_4
      subst X1 M1 K1
      try simp only [sa_ap, si_ap, reduceIte, Nat.reduceEqDiff] at er_3
      refine g_if_ne C dX10_addRule_23 (tgt := 36) (by decide) (fun c_23 => ?_) (fun c_23 => ?_)
      · try simp only [sa_ap, si_ap, reduceIte, Nat.reduceEqDiff, up_us, lg_cmp_lt, lg_cmp_gt, lg_cmp_le, lg_cmp_ge] at c_23
        refine g_aload_n C dX10_addRule_36 0 rfl ?_
        refine gf_X10_rules C tw329 dX10_addRule_37 ?_
        refine gf_X6_size C tw185 dX10_addRule_40 ?_
        refine g_topi hz ?_
        refine g_bipush C dX10_addRule_43 (v := 12) (by decide) ?_
        refine g_icmp_lt C dX10_addRule_45 (tgt := 58) (by decide) (fun c_45 => ?_) (fun c_45 => ?_)
        · try simp only [sa_ap, si_ap, reduceIte, Nat.reduceEqDiff, up_us, lg_cmp_lt, lg_cmp_gt, lg_cmp_le, lg_cmp_ge] at c_45
          have hlt : z < 12 := Nat.lt_of_le_of_ne hzl (fun q => absurd c_45 (by rw [q]; decide))
          refine g_aload_n C dX10_addRule_58 0 rfl ?_
          refine gf_X10_rules C tw329 dX10_addRule_59 ?_
          refine g_iload_n C dX10_addRule_62 1 rfl ?_
          refine g_iload_n C dX10_addRule_63 2 rfl ?_
          refine g_iload_n C dX10_addRule_64 3 rfl ?_
          refine g_iload C dX10_addRule_65 4 rfl ?_
          refine g_iload C dX10_addRule_67 5 rfl ?_
          refine g_callViW C dX10_addRule_69 (c_X6_append _ _ _ _ _ _ _ _ _ _ _ _ _ _ h1 z hz hlt) tw708 tw709 tw710 tw8 tw711 (rv_X6 C) rfl ⟨by decide +kernel, by decide +kernel, rfl⟩ ⟨rfl, rfl⟩ (by rw [hR]; decide) (Nat.le_of_ble_eq_true rfl) (by rw [hR]; decide) (fun r_5 X1 M1 K1 h_6 => ?_)
          obtain ⟨er_5, hX1, hM1, hK1⟩ := h_6
          subst X1 M1 K1
          try simp only [sa_ap, si_ap, reduceIte, Nat.reduceEqDiff] at er_5
          refine g_iretWX C hr hQ (by decide) (by decide) dX10_addRule_72 ?_
          exact ⟨(by first | with_reducible rfl | (subst er_1 er_3 er_5; first | with_reducible rfl | (simp only [sa_ap, si_ap, si_sa, sa_sa, sa_3, sa_4, sa_5, sa_6, sa_7, sa_8, xk_rule, xn, up_us, up_up, c_5, c_11, c_23, c_45]; done) | (simp [sa_ap, si_ap, si_sa, sa_sa, sa_3, sa_4, sa_5, sa_6, sa_7, sa_8, xk_rule, xn, up_us, up_up, c_5, c_11, c_23, c_45]; done))), (by first | with_reducible rfl | (subst er_1 er_3 er_5; first | with_reducible rfl | (simp only [sa_ap, si_ap, si_sa, sa_sa, sa_3, sa_4, sa_5, sa_6, sa_7, sa_8, xk_rule, xn, up_us, up_up, c_5, c_11, c_23, c_45]; done) | (simp [sa_ap, si_ap, si_sa, sa_sa, sa_3, sa_4, sa_5, sa_6, sa_7, sa_8, xk_rule, xn, up_us, up_up, c_5, c_11, c_23, c_45]; done))), (by first | with_reducible rfl | (subst er_1 er_3 er_5; first | with_reducible rfl | (simp only [sa_ap, si_ap, si_sa, sa_sa, sa_3, sa_4, sa_5, sa_6, sa_7, sa_8, xk_rule, xn, up_us, up_up, c_5, c_11, c_23, c_45]; done) | (simp [sa_ap, si_ap, si_sa, sa_sa, sa_3, sa_4, sa_5, sa_6, sa_7, sa_8, xk_rule, xn, up_us, up_up, c_5, c_11, c_23, c_45]; done))), rfl, rfl⟩
        · try simp only [sa_ap, si_ap, reduceIte, Nat.reduceEqDiff, up_us, lg_cmp_lt, lg_cmp_gt, lg_cmp_le, lg_cmp_ge] at c_45
          refine g_throwS C hst ht hQ th_138 th_ot_138 tw563 tw23 (i := 15) ⟨by decide, rfl⟩ dX10_addRule_48 dX10_addRule_51 dX10_addRule_52 dX10_addRule_54 dX10_addRule_57 (by rw [hR]; decide) (by rw [hR]; decide) (by decide) ?_
          exact ⟨(by first | with_reducible rfl | (subst er_1 er_3; first | with_reducible rfl | (simp only [sa_ap, si_ap, si_sa, sa_sa, sa_3, sa_4, sa_5, sa_6, sa_7, sa_8, xk_rule, xn, up_us, up_up, c_5, c_11, c_23, c_45]; done) | (simp [sa_ap, si_ap, si_sa, sa_sa, sa_3, sa_4, sa_5, sa_6, sa_7, sa_8, xk_rule, xn, up_us, up_up, c_5, c_11, c_23, c_45]; done))), (by first | with_reducible rfl | (subst er_1 er_3; first | with_reducible rfl | (simp only [sa_ap, si_ap, si_sa, sa_sa, sa_3, sa_4, sa_5, sa_6, sa_7, sa_8, xk_rule, xn, up_us, up_up, c_5, c_11, c_23, c_45]; done) | (simp [sa_ap, si_ap, si_sa, sa_sa, sa_3, sa_4, sa_5, sa_6, sa_7, sa_8, xk_rule, xn, up_us, up_up, c_5, c_11, c_23, c_45]; done))), (by first | with_reducible rfl | (subst er_1 er_3; first | with_reducible rfl | (simp only [sa_ap, si_ap, si_sa, sa_sa, sa_3, sa_4, sa_5, sa_6, sa_7, sa_8, xk_rule, xn, up_us, up_up, c_5, c_11, c_23, c_45]; done) | (simp [sa_ap, si_ap, si_sa, sa_sa, sa_3, sa_4, sa_5, sa_6, sa_7, sa_8, xk_rule, xn, up_us, up_up, c_5, c_11, c_23, c_45]; done))), rfl, rfl⟩
      · try simp only [sa_ap, si_ap, reduceIte, Nat.reduceEqDiff, up_us, lg_cmp_lt, lg_cmp_gt, lg_cmp_le, lg_cmp_ge] at c_23
        refine g_throwS C hst ht hQ th_103 th_ot_103 tw506 tw21 (i := 14) ⟨by decide, rfl⟩ dX10_addRule_26 dX10_addRule_29 dX10_addRule_30 dX10_addRule_32 dX10_addRule_35 (by rw [hR]; decide) (by rw [hR]; decide) (by decide) ?_
        exact ⟨(by first | with_reducible rfl | (subst er_1 er_3; first | with_reducible rfl | (simp only [sa_ap, si_ap, si_sa, sa_sa, sa_3, sa_4, sa_5, sa_6, sa_7, sa_8, xk_rule, xn, up_us, up_up, c_5, c_11, c_23]; done) | (simp [sa_ap, si_ap, si_sa, sa_sa, sa_3, sa_4, sa_5, sa_6, sa_7, sa_8, xk_rule, xn, up_us, up_up, c_5, c_11, c_23]; done))), (by first | with_reducible rfl | (subst er_1 er_3; first | with_reducible rfl | (simp only [sa_ap, si_ap, si_sa, sa_sa, sa_3, sa_4, sa_5, sa_6, sa_7, sa_8, xk_rule, xn, up_us, up_up, c_5, c_11, c_23]; done) | (simp [sa_ap, si_ap, si_sa, sa_sa, sa_3, sa_4, sa_5, sa_6, sa_7, sa_8, xk_rule, xn, up_us, up_up, c_5, c_11, c_23]; done))), (by first | with_reducible rfl | (subst er_1 er_3; first | with_reducible rfl | (simp only [sa_ap, si_ap, si_sa, sa_sa, sa_3, sa_4, sa_5, sa_6, sa_7, sa_8, xk_rule, xn, up_us, up_up, c_5, c_11, c_23]; done) | (simp [sa_ap, si_ap, si_sa, sa_sa, sa_3, sa_4, sa_5, sa_6, sa_7, sa_8, xk_rule, xn, up_us, up_up, c_5, c_11, c_23]; done))), rfl, rfl⟩

set_option maxHeartbeats 400000 in
set_option maxRecDepth 100000 in
/-- mayWaive.mayWaive -/
theorem c_X10_mayWaive (l : Launch) (D : va_G) (cy : Nat → ClassId) (A : Nat → Prop) (ad sad : Nat → Nat) (X M : XF) (K : KF) (p1 p2 : Int32) (z : Nat) (hz : X 105 0 = nI z) (hzl : z ≤ 12) (hst : l.stackTraces = false) : vx_Met l yX10_mayWaive (wsA yX10_mayWaive cX10_mayWaive 4 (some .boolean)) ({ frames := 6, cells := 1, slots := 6, locals := 82 }) (PcW D cy A ad sad X M K [.ref (ad 0), .int p1, .int p2]) (QiW D cy A ad (fun r X1 M1 K1 => xk_may (nI z) p1 p2 = 0 ∧ r = (if rl_may (X 32 p1.toNatClampNeg) p2 = 0 then 1 else 0) ∧ X1 = sa X 32 (upd (X 32) p1.toNatClampNeg (X 32 p1.toNatClampNeg ||| (1 <<< (p2 &&& 31)))) ∧ M1 = M ∧ K1 = K)) (XcW D cy A ad (fun E X1 M1 K1 => ¬ xk_may (nI z) p1 p2 = 0 ∧ E = xn "java/lang/IndexOutOfBoundsException" "java/lang/IllegalArgumentException" "java/lang/IllegalArgumentException" (xk_may (nI z) p1 p2) ∧ X1 = X ∧ M1 = M ∧ K1 = K)) 1 6 A := by
  refine vet_ofW [(0, .ref (ad 0)), (1, .int p1), (2, .int p2)] (by decide +kernel) (Nat.le_of_ble_eq_true rfl) rfl ?_
  intro G C hl hR hL hD hcy hA had hsa hr ht hQ
  subst hD hcy hA had hsa hl
  refine g_iload_n C dX10_mayWaive_0 1 rfl ?_
  refine g_aload_n C dX10_mayWaive_1 0 rfl ?_
  refine gf_X10_rules C tw329 dX10_mayWaive_2 ?_
  refine gf_X6_size C tw185 dX10_mayWaive_5 ?_
  refine g_topi hz ?_
  refine g_callSiW C dX10_mayWaive_8 (c_X10_isBelow _ _ _ _ _ _ _ _ _ _ _) tw499 tw500 tw1 tw501 rfl ⟨by decide +kernel, by decide +kernel, rfl⟩ ⟨rfl, rfl⟩ (by rw [hR]; decide) (Nat.le_of_ble_eq_true rfl) (by rw [hR]; decide) (fun r_1 X1 M1 K1 h_2 => ?_)
  obtain ⟨er_1, hX1, hM1, hK1⟩ := h_2
  subst X1 M1 K1
  try simp only [sa_ap, si_ap, reduceIte, Nat.reduceEqDiff] at er_1
  refine g_if_ne C dX10_mayWaive_11 (tgt := 24) (by decide) (fun c_11 => ?_) (fun c_11 => ?_)
  · try simp only [sa_ap, si_ap, reduceIte, Nat.reduceEqDiff, up_us, lg_cmp_lt, lg_cmp_gt, lg_cmp_le, lg_cmp_ge] at c_11
    obtain ⟨j, hj, rfl⟩ := bel_ix (p := p1) (s := nI z) (n := z) rfl (by omega) (by rw [← er_1]; exact c_11)
    have c_clj : (nI j).toNatClampNeg = j := nI_clamp (by omega)
    refine g_iload_n C dX10_mayWaive_24 2 rfl ?_
    refine g_bipush C dX10_mayWaive_25 (v := 6) (by decide) ?_
    refine g_callSiW C dX10_mayWaive_27 (c_X10_isBelow _ _ _ _ _ _ _ _ _ _ _) tw499 tw500 tw1 tw501 rfl ⟨by decide +kernel, by decide +kernel, rfl⟩ ⟨rfl, rfl⟩ (by rw [hR]; decide) (Nat.le_of_ble_eq_true rfl) (by rw [hR]; decide) (fun r_3 X1 M1 K1 h_4 => ?_)
    obtain ⟨er_3, hX1, hM1, hK1⟩ := h_4
    subst X1 M1 K1
    try simp only [sa_ap, si_ap, reduceIte, Nat.reduceEqDiff] at er_3
    refine g_if_ne C dX10_mayWaive_30 (tgt := 43) (by decide) (fun c_30 => ?_) (fun c_30 => ?_)
    · try simp only [sa_ap, si_ap, reduceIte, Nat.reduceEqDiff, up_us, lg_cmp_lt, lg_cmp_gt, lg_cmp_le, lg_cmp_ge] at c_30
      refine g_aload_n C dX10_mayWaive_43 0 rfl ?_
      refine gf_X10_rules C tw329 dX10_mayWaive_44 ?_
      refine g_iload_n C dX10_mayWaive_47 1 rfl ?_
      refine g_iload_n C dX10_mayWaive_48 2 rfl ?_
      refine g_callViW C dX10_mayWaive_49 (c_X6_isWaiver _ _ _ _ _ _ _ _ _ j (by omega) _) tw718 tw719 tw720 tw8 tw721 (rv_X6 C) rfl ⟨by decide +kernel, by decide +kernel, rfl⟩ ⟨rfl, rfl⟩ (by rw [hR]; decide) (Nat.le_of_ble_eq_true rfl) (by rw [hR]; decide) (fun r_5 X1 M1 K1 h_6 => ?_)
      obtain ⟨er_5, hX1, hM1, hK1⟩ := h_6
      subst X1 M1 K1
      try simp only [sa_ap, si_ap, reduceIte, Nat.reduceEqDiff] at er_5
      refine g_istore_n C dX10_mayWaive_52 (L' := [(3, .int r_5), (0, .ref (gad G 0)), (1, .int (nI j)), (2, .int p2)]) rfl (by rw [hL]; decide) ?_
      refine g_aload_n C dX10_mayWaive_53 1 rfl ?_
      refine gf_X10_rules C tw329 dX10_mayWaive_54 ?_
      refine gf_X6_waivers C tw179 dX10_mayWaive_57 ?_
      refine g_iload_n C dX10_mayWaive_60 2 rfl ?_
      refine g_dup2 C dX10_mayWaive_61 rfl rfl ?_
      refine al_32 C (by omega) dX10_mayWaive_62 ?_
      refine g_iconst C dX10_mayWaive_63 (v := 1) (by decide) ?_
      refine g_iload_n C dX10_mayWaive_64 3 rfl ?_
      refine g_ishl C dX10_mayWaive_65 ?_
      refine g_ior C dX10_mayWaive_66 ?_
      refine as_32 C (by omega) dX10_mayWaive_67 ?_
      refine g_iload_n C dX10_mayWaive_68 0 rfl ?_
      refine g_if_ne C dX10_mayWaive_69 (tgt := 76) (by decide) (fun c_69 => ?_) (fun c_69 => ?_)
      · try simp only [sa_ap, si_ap, reduceIte, Nat.reduceEqDiff, up_us, lg_cmp_lt, lg_cmp_gt, lg_cmp_le, lg_cmp_ge] at c_69
        refine g_iconst C dX10_mayWaive_76 (v := 0) (by decide) ?_
        refine g_zretWX C hr (by decide) hQ (by decide) (by decide) dX10_mayWaive_77 ?_
        exact ⟨(by first | with_reducible rfl | (subst er_1 er_3 er_5; first | with_reducible rfl | (simp only [sa_ap, si_ap, si_sa, sa_sa, sa_3, sa_4, sa_5, sa_6, sa_7, sa_8, xk_may, xn, up_us, up_up, c_11, c_clj, c_30, c_69]; done) | (simp [sa_ap, si_ap, si_sa, sa_sa, sa_3, sa_4, sa_5, sa_6, sa_7, sa_8, xk_may, xn, up_us, up_up, c_11, c_clj, c_30, c_69]; done))), (by first | with_reducible rfl | (subst er_1 er_3 er_5; first | with_reducible rfl | (simp only [sa_ap, si_ap, si_sa, sa_sa, sa_3, sa_4, sa_5, sa_6, sa_7, sa_8, xk_may, xn, up_us, up_up, c_11, c_clj, c_30, c_69]; done) | (simp [sa_ap, si_ap, si_sa, sa_sa, sa_3, sa_4, sa_5, sa_6, sa_7, sa_8, xk_may, xn, up_us, up_up, c_11, c_clj, c_30, c_69]; done))), (by first | with_reducible rfl | (subst er_1 er_3 er_5; first | with_reducible rfl | (simp only [sa_ap, si_ap, si_sa, sa_sa, sa_3, sa_4, sa_5, sa_6, sa_7, sa_8, xk_may, xn, up_us, up_up, c_11, c_clj, c_30, c_69]; done) | (simp [sa_ap, si_ap, si_sa, sa_sa, sa_3, sa_4, sa_5, sa_6, sa_7, sa_8, xk_may, xn, up_us, up_up, c_11, c_clj, c_30, c_69]; done))), rfl, rfl⟩
      · try simp only [sa_ap, si_ap, reduceIte, Nat.reduceEqDiff, up_us, lg_cmp_lt, lg_cmp_gt, lg_cmp_le, lg_cmp_ge] at c_69
        refine g_iconst C dX10_mayWaive_72 (v := 1) (by decide) ?_
        refine g_goto C dX10_mayWaive_73 (tgt := 77) (by decide) ?_
        refine g_zretWX C hr (by decide) hQ (by decide) (by decide) dX10_mayWaive_77 ?_
        exact ⟨(by first | with_reducible rfl | (subst er_1 er_3 er_5; first | with_reducible rfl | (simp only [sa_ap, si_ap, si_sa, sa_sa, sa_3, sa_4, sa_5, sa_6, sa_7, sa_8, xk_may, xn, up_us, up_up, c_11, c_clj, c_30, c_69]; done) | (simp [sa_ap, si_ap, si_sa, sa_sa, sa_3, sa_4, sa_5, sa_6, sa_7, sa_8, xk_may, xn, up_us, up_up, c_11, c_clj, c_30, c_69]; done))), (by first | with_reducible rfl | (subst er_1 er_3 er_5; first | with_reducible rfl | (simp only [sa_ap, si_ap, si_sa, sa_sa, sa_3, sa_4, sa_5, sa_6, sa_7, sa_8, xk_may, xn, up_us, up_up, c_11, c_clj, c_30, c_69]; done) | (simp [sa_ap, si_ap, si_sa, sa_sa, sa_3, sa_4, sa_5, sa_6, sa_7, sa_8, xk_may, xn, up_us, up_up, c_11, c_clj, c_30, c_69]; done))), (by first | with_reducible rfl | (subst er_1 er_3 er_5; first | with_reducible rfl | (simp only [sa_ap, si_ap, si_sa, sa_sa, sa_3, sa_4, sa_5, sa_6, sa_7, sa_8, xk_may, xn, up_us, up_up, c_11, c_clj, c_30, c_69]; done) | (simp [sa_ap, si_ap, si_sa, sa_sa, sa_3, sa_4, sa_5, sa_6, sa_7, sa_8, xk_may, xn, up_us, up_up, c_11, c_clj, c_30, c_69]; done))), rfl, rfl⟩
    · try simp only [sa_ap, si_ap, reduceIte, Nat.reduceEqDiff, up_us, lg_cmp_lt, lg_cmp_gt, lg_cmp_le, lg_cmp_ge] at c_30
      refine g_throwS C hst ht hQ th_103 th_ot_103 tw506 tw21 (i := 17) ⟨by decide, rfl⟩ dX10_mayWaive_33 dX10_mayWaive_36 dX10_mayWaive_37 dX10_mayWaive_39 dX10_mayWaive_42 (by rw [hR]; decide) (by rw [hR]; decide) (by decide) ?_
      exact ⟨(by first | with_reducible rfl | (subst er_1 er_3; first | with_reducible rfl | (simp only [sa_ap, si_ap, si_sa, sa_sa, sa_3, sa_4, sa_5, sa_6, sa_7, sa_8, xk_may, xn, up_us, up_up, c_11, c_clj, c_30]; done) | (simp [sa_ap, si_ap, si_sa, sa_sa, sa_3, sa_4, sa_5, sa_6, sa_7, sa_8, xk_may, xn, up_us, up_up, c_11, c_clj, c_30]; done))), (by first | with_reducible rfl | (subst er_1 er_3; first | with_reducible rfl | (simp only [sa_ap, si_ap, si_sa, sa_sa, sa_3, sa_4, sa_5, sa_6, sa_7, sa_8, xk_may, xn, up_us, up_up, c_11, c_clj, c_30]; done) | (simp [sa_ap, si_ap, si_sa, sa_sa, sa_3, sa_4, sa_5, sa_6, sa_7, sa_8, xk_may, xn, up_us, up_up, c_11, c_clj, c_30]; done))), (by first | with_reducible rfl | (subst er_1 er_3; first | with_reducible rfl | (simp only [sa_ap, si_ap, si_sa, sa_sa, sa_3, sa_4, sa_5, sa_6, sa_7, sa_8, xk_may, xn, up_us, up_up, c_11, c_clj, c_30]; done) | (simp [sa_ap, si_ap, si_sa, sa_sa, sa_3, sa_4, sa_5, sa_6, sa_7, sa_8, xk_may, xn, up_us, up_up, c_11, c_clj, c_30]; done))), rfl, rfl⟩
  · try simp only [sa_ap, si_ap, reduceIte, Nat.reduceEqDiff, up_us, lg_cmp_lt, lg_cmp_gt, lg_cmp_le, lg_cmp_ge] at c_11
    refine g_throwS C hst ht hQ th_146 th_ot_146 tw587 tw19 (i := 16) ⟨by decide, rfl⟩ dX10_mayWaive_14 dX10_mayWaive_17 dX10_mayWaive_18 dX10_mayWaive_20 dX10_mayWaive_23 (by rw [hR]; decide) (by rw [hR]; decide) (by decide) ?_
    exact ⟨(by first | with_reducible rfl | (subst er_1; first | with_reducible rfl | (simp only [sa_ap, si_ap, si_sa, sa_sa, sa_3, sa_4, sa_5, sa_6, sa_7, sa_8, xk_may, xn, up_us, up_up, c_11]; done) | (simp [sa_ap, si_ap, si_sa, sa_sa, sa_3, sa_4, sa_5, sa_6, sa_7, sa_8, xk_may, xn, up_us, up_up, c_11]; done))), (by first | with_reducible rfl | (subst er_1; first | with_reducible rfl | (simp only [sa_ap, si_ap, si_sa, sa_sa, sa_3, sa_4, sa_5, sa_6, sa_7, sa_8, xk_may, xn, up_us, up_up, c_11]; done) | (simp [sa_ap, si_ap, si_sa, sa_sa, sa_3, sa_4, sa_5, sa_6, sa_7, sa_8, xk_may, xn, up_us, up_up, c_11]; done))), (by first | with_reducible rfl | (subst er_1; first | with_reducible rfl | (simp only [sa_ap, si_ap, si_sa, sa_sa, sa_3, sa_4, sa_5, sa_6, sa_7, sa_8, xk_may, xn, up_us, up_up, c_11]; done) | (simp [sa_ap, si_ap, si_sa, sa_sa, sa_3, sa_4, sa_5, sa_6, sa_7, sa_8, xk_may, xn, up_us, up_up, c_11]; done))), rfl, rfl⟩

set_option maxHeartbeats 400000 in
set_option maxRecDepth 100000 in
/-- waive.waive -/
theorem c_X10_waive (l : Launch) (D : va_G) (cy : Nat → ClassId) (A : Nat → Prop) (ad sad : Nat → Nat) (X M : XF) (K : KF) (p1 p2 p3 : Int32) (z : Nat) (hz : X 105 0 = nI z) (hzl : z ≤ 12) (hst : l.stackTraces = false) : vx_Met l yX10_waive (wsA yX10_waive cX10_waive 5 (some .boolean)) ({ frames := 6, cells := 1, slots := 6, locals := 82 }) (PcW D cy A ad sad X M K [.ref (ad 0), .int p1, .int p2, .int p3]) (QiW D cy A ad (fun r X1 M1 K1 => xk_waive (X 32) (nI z) p1 p2 p3 = 0 ∧ r = cl_iw X p1.toNatClampNeg ∧ X1 = sa (sa X 33 (upd (X 33) p1.toNatClampNeg p2)) 34 (upd (X 34) p1.toNatClampNeg p3) ∧ M1 = M ∧ K1 = K)) (XcW D cy A ad (fun E X1 M1 K1 => ¬ xk_waive (X 32) (nI z) p1 p2 p3 = 0 ∧ E = xn "java/lang/IndexOutOfBoundsException" "java/lang/IllegalArgumentException" "java/lang/UnsupportedOperationException" (xk_waive (X 32) (nI z) p1 p2 p3) ∧ X1 = X ∧ M1 = M ∧ K1 = K)) 1 6 A := by
  refine vet_ofW [(0, .ref (ad 0)), (1, .int p1), (2, .int p2), (3, .int p3)] (by decide +kernel) (Nat.le_of_ble_eq_true rfl) rfl ?_
  intro G C hl hR hL hD hcy hA had hsa hr ht hQ
  subst hD hcy hA had hsa hl
  refine g_iload_n C dX10_waive_0 1 rfl ?_
  refine g_aload_n C dX10_waive_1 0 rfl ?_
  refine gf_X10_rules C tw329 dX10_waive_2 ?_
  refine gf_X6_size C tw185 dX10_waive_5 ?_
  refine g_topi hz ?_
  refine g_callSiW C dX10_waive_8 (c_X10_isBelow _ _ _ _ _ _ _ _ _ _ _) tw499 tw500 tw1 tw501 rfl ⟨by decide +kernel, by decide +kernel, rfl⟩ ⟨rfl, rfl⟩ (by rw [hR]; decide) (Nat.le_of_ble_eq_true rfl) (by rw [hR]; decide) (fun r_1 X1 M1 K1 h_2 => ?_)
  obtain ⟨er_1, hX1, hM1, hK1⟩ := h_2
  subst X1 M1 K1
  try simp only [sa_ap, si_ap, reduceIte, Nat.reduceEqDiff] at er_1
  refine g_if_ne C dX10_waive_11 (tgt := 24) (by decide) (fun c_11 => ?_) (fun c_11 => ?_)
  · try simp only [sa_ap, si_ap, reduceIte, Nat.reduceEqDiff, up_us, lg_cmp_lt, lg_cmp_gt, lg_cmp_le, lg_cmp_ge] at c_11
    obtain ⟨j, hj, rfl⟩ := bel_ix (p := p1) (s := nI z) (n := z) rfl (by omega) (by rw [← er_1]; exact c_11)
    have c_clj : (nI j).toNatClampNeg = j := nI_clamp (by omega)
    refine g_iload_n C dX10_waive_24 2 rfl ?_
    refine g_bipush C dX10_waive_25 (v := 6) (by decide) ?_
    refine g_callSiW C dX10_waive_27 (c_X10_isBelow _ _ _ _ _ _ _ _ _ _ _) tw499 tw500 tw1 tw501 rfl ⟨by decide +kernel, by decide +kernel, rfl⟩ ⟨rfl, rfl⟩ (by rw [hR]; decide) (Nat.le_of_ble_eq_true rfl) (by rw [hR]; decide) (fun r_3 X1 M1 K1 h_4 => ?_)
    obtain ⟨er_3, hX1, hM1, hK1⟩ := h_4
    subst X1 M1 K1
    try simp only [sa_ap, si_ap, reduceIte, Nat.reduceEqDiff] at er_3
    refine g_if_eq C dX10_waive_30 (tgt := 44) (by decide) (fun c_30 => ?_) (fun c_30 => ?_)
    · try simp only [sa_ap, si_ap, reduceIte, Nat.reduceEqDiff, up_us, lg_cmp_lt, lg_cmp_gt, lg_cmp_le, lg_cmp_ge] at c_30
      refine g_throwS C hst ht hQ th_103 th_ot_103 tw506 tw21 (i := 18) ⟨by decide, rfl⟩ dX10_waive_44 dX10_waive_47 dX10_waive_48 dX10_waive_50 dX10_waive_53 (by rw [hR]; decide) (by rw [hR]; decide) (by decide) ?_
      exact ⟨(by first | with_reducible rfl | (subst er_1 er_3; first | with_reducible rfl | (simp only [sa_ap, si_ap, si_sa, sa_sa, sa_3, sa_4, sa_5, sa_6, sa_7, sa_8, xk_waive, xn, up_us, up_up, c_11, c_clj, c_30]; done) | (simp [sa_ap, si_ap, si_sa, sa_sa, sa_3, sa_4, sa_5, sa_6, sa_7, sa_8, xk_waive, xn, up_us, up_up, c_11, c_clj, c_30]; done))), (by first | with_reducible rfl | (subst er_1 er_3; first | with_reducible rfl | (simp only [sa_ap, si_ap, si_sa, sa_sa, sa_3, sa_4, sa_5, sa_6, sa_7, sa_8, xk_waive, xn, up_us, up_up, c_11, c_clj, c_30]; done) | (simp [sa_ap, si_ap, si_sa, sa_sa, sa_3, sa_4, sa_5, sa_6, sa_7, sa_8, xk_waive, xn, up_us, up_up, c_11, c_clj, c_30]; done))), (by first | with_reducible rfl | (subst er_1 er_3; first | with_reducible rfl | (simp only [sa_ap, si_ap, si_sa, sa_sa, sa_3, sa_4, sa_5, sa_6, sa_7, sa_8, xk_waive, xn, up_us, up_up, c_11, c_clj, c_30]; done) | (simp [sa_ap, si_ap, si_sa, sa_sa, sa_3, sa_4, sa_5, sa_6, sa_7, sa_8, xk_waive, xn, up_us, up_up, c_11, c_clj, c_30]; done))), rfl, rfl⟩
    · try simp only [sa_ap, si_ap, reduceIte, Nat.reduceEqDiff, up_us, lg_cmp_lt, lg_cmp_gt, lg_cmp_le, lg_cmp_ge] at c_30
      refine g_iload_n C dX10_waive_33 3 rfl ?_
      refine g_sipush C dX10_waive_34 (v := (-600)) (by decide) ?_
      refine g_iconst C dX10_waive_37 (v := 0) (by decide) ?_
      refine g_callSiW C dX10_waive_38 (c_X10_isWithin _ _ _ _ _ _ _ _ _ _ _ _) tw503 tw504 tw1 tw505 rfl ⟨by decide +kernel, by decide +kernel, rfl⟩ ⟨rfl, rfl⟩ (by rw [hR]; decide) (Nat.le_of_ble_eq_true rfl) (by rw [hR]; decide) (fun r_5 X1 M1 K1 h_6 => ?_)
      obtain ⟨er_5, hX1, hM1, hK1⟩ := h_6
      subst X1 M1 K1
      try simp only [sa_ap, si_ap, reduceIte, Nat.reduceEqDiff] at er_5
      refine g_if_ne C dX10_waive_41 (tgt := 54) (by decide) (fun c_41 => ?_) (fun c_41 => ?_)
      · try simp only [sa_ap, si_ap, reduceIte, Nat.reduceEqDiff, up_us, lg_cmp_lt, lg_cmp_gt, lg_cmp_le, lg_cmp_ge] at c_41
        refine g_aload_n C dX10_waive_54 0 rfl ?_
        refine gf_X10_rules C tw329 dX10_waive_55 ?_
        refine g_iload_n C dX10_waive_58 1 rfl ?_
        refine g_iload_n C dX10_waive_59 2 rfl ?_
        refine g_callViW C dX10_waive_60 (c_X6_isWaiver _ _ _ _ _ _ _ _ _ j (by omega) _) tw718 tw719 tw720 tw8 tw721 (rv_X6 C) rfl ⟨by decide +kernel, by decide +kernel, rfl⟩ ⟨rfl, rfl⟩ (by rw [hR]; decide) (Nat.le_of_ble_eq_true rfl) (by rw [hR]; decide) (fun r_7 X1 M1 K1 h_8 => ?_)
        obtain ⟨er_7, hX1, hM1, hK1⟩ := h_8
        subst X1 M1 K1
        try simp only [sa_ap, si_ap, reduceIte, Nat.reduceEqDiff] at er_7
        refine g_if_ne C dX10_waive_63 (tgt := 76) (by decide) (fun c_63 => ?_) (fun c_63 => ?_)
        · try simp only [sa_ap, si_ap, reduceIte, Nat.reduceEqDiff, up_us, lg_cmp_lt, lg_cmp_gt, lg_cmp_le, lg_cmp_ge] at c_63
          refine g_aload_n C dX10_waive_76 0 rfl ?_
          refine g_iload_n C dX10_waive_77 1 rfl ?_
          refine g_callViW C dX10_waive_78 (c_X10_isWaived _ _ _ _ _ _ _ _ _ j (by omega)) tw728 tw730 tp6 tw1 tw731 (rv_X10 C) rfl ⟨by decide +kernel, by decide +kernel, rfl⟩ ⟨rfl, rfl⟩ (by rw [hR]; decide) (Nat.le_of_ble_eq_true rfl) (by rw [hR]; decide) (fun r_9 X1 M1 K1 h_10 => ?_)
          obtain ⟨er_9, hX1, hM1, hK1⟩ := h_10
          subst X1 M1 K1
          try simp only [sa_ap, si_ap, reduceIte, Nat.reduceEqDiff] at er_9
          refine g_istore C dX10_waive_81 (L' := [(4, .int r_9), (0, .ref (gad G 0)), (1, .int (nI j)), (2, .int p2), (3, .int p3)]) rfl (by rw [hL]; decide) ?_
          refine g_aload_n C dX10_waive_83 1 rfl ?_
          refine gf_X10_rules C tw329 dX10_waive_84 ?_
          refine gf_X6_waivedBy C tw181 dX10_waive_87 ?_
          refine g_iload_n C dX10_waive_90 2 rfl ?_
          refine g_iload_n C dX10_waive_91 3 rfl ?_
          refine as_33 C (by omega) dX10_waive_92 ?_
          refine g_aload_n C dX10_waive_93 1 rfl ?_
          refine gf_X10_rules C tw329 dX10_waive_94 ?_
          refine gf_X6_waivedUntil C tw183 dX10_waive_97 ?_
          refine g_iload_n C dX10_waive_100 2 rfl ?_
          refine g_iload_n C dX10_waive_101 4 rfl ?_
          refine as_34 C (by omega) dX10_waive_102 ?_
          refine g_iload C dX10_waive_103 0 rfl ?_
          refine g_zretWX C hr (by subst er_9; exact (isBo.na (cl_iw_bo _ _)).1) hQ (by decide) (by decide) dX10_waive_105 ?_
          exact ⟨(by first | with_reducible rfl | (subst er_1 er_3 er_5 er_7 er_9; first | with_reducible rfl | (simp only [sa_ap, si_ap, si_sa, sa_sa, sa_3, sa_4, sa_5, sa_6, sa_7, sa_8, xk_waive, xn, up_us, up_up, c_11, c_clj, c_30, c_41, c_63]; done) | (simp [sa_ap, si_ap, si_sa, sa_sa, sa_3, sa_4, sa_5, sa_6, sa_7, sa_8, xk_waive, xn, up_us, up_up, c_11, c_clj, c_30, c_41, c_63]; done))), (by first | with_reducible rfl | (subst er_1 er_3 er_5 er_7 er_9; first | with_reducible rfl | (simp only [sa_ap, si_ap, si_sa, sa_sa, sa_3, sa_4, sa_5, sa_6, sa_7, sa_8, xk_waive, xn, up_us, up_up, c_11, c_clj, c_30, c_41, c_63]; done) | (simp [sa_ap, si_ap, si_sa, sa_sa, sa_3, sa_4, sa_5, sa_6, sa_7, sa_8, xk_waive, xn, up_us, up_up, c_11, c_clj, c_30, c_41, c_63]; done))), (by first | with_reducible rfl | (subst er_1 er_3 er_5 er_7 er_9; first | with_reducible rfl | (simp only [sa_ap, si_ap, si_sa, sa_sa, sa_3, sa_4, sa_5, sa_6, sa_7, sa_8, xk_waive, xn, up_us, up_up, c_11, c_clj, c_30, c_41, c_63]; done) | (simp [sa_ap, si_ap, si_sa, sa_sa, sa_3, sa_4, sa_5, sa_6, sa_7, sa_8, xk_waive, xn, up_us, up_up, c_11, c_clj, c_30, c_41, c_63]; done))), rfl, rfl⟩
        · try simp only [sa_ap, si_ap, reduceIte, Nat.reduceEqDiff, up_us, lg_cmp_lt, lg_cmp_gt, lg_cmp_le, lg_cmp_ge] at c_63
          refine g_throwS C hst ht hQ th_170 th_ot_170 tw625 tw26 (i := 19) ⟨by decide, rfl⟩ dX10_waive_66 dX10_waive_69 dX10_waive_70 dX10_waive_72 dX10_waive_75 (by rw [hR]; decide) (by rw [hR]; decide) (by decide) ?_
          exact ⟨(by first | with_reducible rfl | (subst er_1 er_3 er_5 er_7; first | with_reducible rfl | (simp only [sa_ap, si_ap, si_sa, sa_sa, sa_3, sa_4, sa_5, sa_6, sa_7, sa_8, xk_waive, xn, up_us, up_up, c_11, c_clj, c_30, c_41, c_63]; done) | (simp [sa_ap, si_ap, si_sa, sa_sa, sa_3, sa_4, sa_5, sa_6, sa_7, sa_8, xk_waive, xn, up_us, up_up, c_11, c_clj, c_30, c_41, c_63]; done))), (by first | with_reducible rfl | (subst er_1 er_3 er_5 er_7; first | with_reducible rfl | (simp only [sa_ap, si_ap, si_sa, sa_sa, sa_3, sa_4, sa_5, sa_6, sa_7, sa_8, xk_waive, xn, up_us, up_up, c_11, c_clj, c_30, c_41, c_63]; done) | (simp [sa_ap, si_ap, si_sa, sa_sa, sa_3, sa_4, sa_5, sa_6, sa_7, sa_8, xk_waive, xn, up_us, up_up, c_11, c_clj, c_30, c_41, c_63]; done))), (by first | with_reducible rfl | (subst er_1 er_3 er_5 er_7; first | with_reducible rfl | (simp only [sa_ap, si_ap, si_sa, sa_sa, sa_3, sa_4, sa_5, sa_6, sa_7, sa_8, xk_waive, xn, up_us, up_up, c_11, c_clj, c_30, c_41, c_63]; done) | (simp [sa_ap, si_ap, si_sa, sa_sa, sa_3, sa_4, sa_5, sa_6, sa_7, sa_8, xk_waive, xn, up_us, up_up, c_11, c_clj, c_30, c_41, c_63]; done))), rfl, rfl⟩
      · try simp only [sa_ap, si_ap, reduceIte, Nat.reduceEqDiff, up_us, lg_cmp_lt, lg_cmp_gt, lg_cmp_le, lg_cmp_ge] at c_41
        refine g_throwS C hst ht hQ th_103 th_ot_103 tw506 tw21 (i := 18) ⟨by decide, rfl⟩ dX10_waive_44 dX10_waive_47 dX10_waive_48 dX10_waive_50 dX10_waive_53 (by rw [hR]; decide) (by rw [hR]; decide) (by decide) ?_
        exact ⟨(by first | with_reducible rfl | (subst er_1 er_3 er_5; first | with_reducible rfl | (simp only [sa_ap, si_ap, si_sa, sa_sa, sa_3, sa_4, sa_5, sa_6, sa_7, sa_8, xk_waive, xn, up_us, up_up, c_11, c_clj, c_30, c_41]; done) | (simp [sa_ap, si_ap, si_sa, sa_sa, sa_3, sa_4, sa_5, sa_6, sa_7, sa_8, xk_waive, xn, up_us, up_up, c_11, c_clj, c_30, c_41]; done))), (by first | with_reducible rfl | (subst er_1 er_3 er_5; first | with_reducible rfl | (simp only [sa_ap, si_ap, si_sa, sa_sa, sa_3, sa_4, sa_5, sa_6, sa_7, sa_8, xk_waive, xn, up_us, up_up, c_11, c_clj, c_30, c_41]; done) | (simp [sa_ap, si_ap, si_sa, sa_sa, sa_3, sa_4, sa_5, sa_6, sa_7, sa_8, xk_waive, xn, up_us, up_up, c_11, c_clj, c_30, c_41]; done))), (by first | with_reducible rfl | (subst er_1 er_3 er_5; first | with_reducible rfl | (simp only [sa_ap, si_ap, si_sa, sa_sa, sa_3, sa_4, sa_5, sa_6, sa_7, sa_8, xk_waive, xn, up_us, up_up, c_11, c_clj, c_30, c_41]; done) | (simp [sa_ap, si_ap, si_sa, sa_sa, sa_3, sa_4, sa_5, sa_6, sa_7, sa_8, xk_waive, xn, up_us, up_up, c_11, c_clj, c_30, c_41]; done))), rfl, rfl⟩
  · try simp only [sa_ap, si_ap, reduceIte, Nat.reduceEqDiff, up_us, lg_cmp_lt, lg_cmp_gt, lg_cmp_le, lg_cmp_ge] at c_11
    refine g_throwS C hst ht hQ th_146 th_ot_146 tw587 tw19 (i := 16) ⟨by decide, rfl⟩ dX10_waive_14 dX10_waive_17 dX10_waive_18 dX10_waive_20 dX10_waive_23 (by rw [hR]; decide) (by rw [hR]; decide) (by decide) ?_
    exact ⟨(by first | with_reducible rfl | (subst er_1; first | with_reducible rfl | (simp only [sa_ap, si_ap, si_sa, sa_sa, sa_3, sa_4, sa_5, sa_6, sa_7, sa_8, xk_waive, xn, up_us, up_up, c_11]; done) | (simp [sa_ap, si_ap, si_sa, sa_sa, sa_3, sa_4, sa_5, sa_6, sa_7, sa_8, xk_waive, xn, up_us, up_up, c_11]; done))), (by first | with_reducible rfl | (subst er_1; first | with_reducible rfl | (simp only [sa_ap, si_ap, si_sa, sa_sa, sa_3, sa_4, sa_5, sa_6, sa_7, sa_8, xk_waive, xn, up_us, up_up, c_11]; done) | (simp [sa_ap, si_ap, si_sa, sa_sa, sa_3, sa_4, sa_5, sa_6, sa_7, sa_8, xk_waive, xn, up_us, up_up, c_11]; done))), (by first | with_reducible rfl | (subst er_1; first | with_reducible rfl | (simp only [sa_ap, si_ap, si_sa, sa_sa, sa_3, sa_4, sa_5, sa_6, sa_7, sa_8, xk_waive, xn, up_us, up_up, c_11]; done) | (simp [sa_ap, si_ap, si_sa, sa_sa, sa_3, sa_4, sa_5, sa_6, sa_7, sa_8, xk_waive, xn, up_us, up_up, c_11]; done))), rfl, rfl⟩

set_option maxHeartbeats 400000 in
set_option maxRecDepth 100000 in
/-- go.go -/
theorem c_X10_go (l : Launch) (D : va_G) (cy : Nat → ClassId) (A : Nat → Prop) (ad sad : Nat → Nat) (X M : XF) (K : KF) (p1 p2 : Int32) (h2 : isBo p2) (hb : ∀ i : Nat, isBo (X 41 i)) (hst : l.stackTraces = false) : vx_Met l yX10_go (wsA yX10_go cX10_go 4 (some .boolean)) ({ frames := 6, cells := 1, slots := 6, locals := 82 }) (PcW D cy A ad sad X M K [.ref (ad 0), .int p1, .int p2]) (QiW D cy A ad (fun r X1 M1 K1 => xk_b p1 6 = 0 ∧ r = X 41 p1.toNatClampNeg ∧ X1 = sa X 41 (upd (X 41) p1.toNatClampNeg p2) ∧ M1 = M ∧ K1 = K)) (XcW D cy A ad (fun E X1 M1 K1 => ¬ xk_b p1 6 = 0 ∧ E = xn "java/lang/IllegalArgumentException" "java/lang/IllegalArgumentException" "java/lang/IllegalArgumentException" (xk_b p1 6) ∧ X1 = X ∧ M1 = M ∧ K1 = K)) 1 6 A := by
  refine vet_ofW [(0, .ref (ad 0)), (1, .int p1), (2, .int p2)] (by decide +kernel) (Nat.le_of_ble_eq_true rfl) rfl ?_
  intro G C hl hR hL hD hcy hA had hsa hr ht hQ
  subst hD hcy hA had hsa hl
  refine g_iload_n C dX10_go_0 1 rfl ?_
  refine g_bipush C dX10_go_1 (v := 6) (by decide) ?_
  refine g_callSiW C dX10_go_3 (c_X10_isBelow _ _ _ _ _ _ _ _ _ _ _) tw499 tw500 tw1 tw501 rfl ⟨by decide +kernel, by decide +kernel, rfl⟩ ⟨rfl, rfl⟩ (by rw [hR]; decide) (Nat.le_of_ble_eq_true rfl) (by rw [hR]; decide) (fun r_1 X1 M1 K1 h_2 => ?_)
  obtain ⟨er_1, hX1, hM1, hK1⟩ := h_2
  subst X1 M1 K1
  try simp only [sa_ap, si_ap, reduceIte, Nat.reduceEqDiff] at er_1
  refine g_if_ne C dX10_go_6 (tgt := 19) (by decide) (fun c_6 => ?_) (fun c_6 => ?_)
  · try simp only [sa_ap, si_ap, reduceIte, Nat.reduceEqDiff, up_us, lg_cmp_lt, lg_cmp_gt, lg_cmp_le, lg_cmp_ge] at c_6
    obtain ⟨j, hj, rfl⟩ := bel_ix (p := p1) (s := 6) (n := 6) rfl (by omega) (by rw [← er_1]; exact c_6)
    have c_clj : (nI j).toNatClampNeg = j := nI_clamp (by omega)
    refine g_aload_n C dX10_go_19 0 rfl ?_
    refine gf_X10_saysGo C tw333 dX10_go_20 ?_
    refine g_iload_n C dX10_go_23 1 rfl ?_
    refine al_41 C (by omega) dX10_go_24 ?_
    refine g_topi rfl ?_
    refine g_istore_n C dX10_go_25 (L' := [(3, .int (X 41 j)), (0, .ref (gad G 0)), (1, .int (nI j)), (2, .int p2)]) rfl (by rw [hL]; decide) ?_
    refine g_aload_n C dX10_go_26 1 rfl ?_
    refine gf_X10_saysGo C tw333 dX10_go_27 ?_
    refine g_iload_n C dX10_go_30 2 rfl ?_
    refine g_iload_n C dX10_go_31 3 rfl ?_
    refine as_41 C (by first | exact isBo_0 | exact isBo_1 | assumption) (by omega) dX10_go_32 ?_
    refine g_iload_n C dX10_go_33 0 rfl ?_
    refine g_zretWX C hr (isBo.na (hb _)).1 hQ (by decide) (by decide) dX10_go_34 ?_
    exact ⟨(by first | with_reducible rfl | (subst er_1; first | with_reducible rfl | (simp only [sa_ap, si_ap, si_sa, sa_sa, sa_3, sa_4, sa_5, sa_6, sa_7, sa_8, xk_b, xn, up_us, up_up, c_6, c_clj]; done) | (simp [sa_ap, si_ap, si_sa, sa_sa, sa_3, sa_4, sa_5, sa_6, sa_7, sa_8, xk_b, xn, up_us, up_up, c_6, c_clj]; done))), (by first | with_reducible rfl | (subst er_1; first | with_reducible rfl | (simp only [sa_ap, si_ap, si_sa, sa_sa, sa_3, sa_4, sa_5, sa_6, sa_7, sa_8, xk_b, xn, up_us, up_up, c_6, c_clj]; done) | (simp [sa_ap, si_ap, si_sa, sa_sa, sa_3, sa_4, sa_5, sa_6, sa_7, sa_8, xk_b, xn, up_us, up_up, c_6, c_clj]; done))), (by first | with_reducible rfl | (subst er_1; first | with_reducible rfl | (simp only [sa_ap, si_ap, si_sa, sa_sa, sa_3, sa_4, sa_5, sa_6, sa_7, sa_8, xk_b, xn, up_us, up_up, c_6, c_clj]; done) | (simp [sa_ap, si_ap, si_sa, sa_sa, sa_3, sa_4, sa_5, sa_6, sa_7, sa_8, xk_b, xn, up_us, up_up, c_6, c_clj]; done))), rfl, rfl⟩
  · try simp only [sa_ap, si_ap, reduceIte, Nat.reduceEqDiff, up_us, lg_cmp_lt, lg_cmp_gt, lg_cmp_le, lg_cmp_ge] at c_6
    refine g_throwS C hst ht hQ th_103 th_ot_103 tw506 tw21 (i := 17) ⟨by decide, rfl⟩ dX10_go_9 dX10_go_12 dX10_go_13 dX10_go_15 dX10_go_18 (by rw [hR]; decide) (by rw [hR]; decide) (by decide) ?_
    exact ⟨(by first | with_reducible rfl | (subst er_1; first | with_reducible rfl | (simp only [sa_ap, si_ap, si_sa, sa_sa, sa_3, sa_4, sa_5, sa_6, sa_7, sa_8, xk_b, xn, up_us, up_up, c_6]; done) | (simp [sa_ap, si_ap, si_sa, sa_sa, sa_3, sa_4, sa_5, sa_6, sa_7, sa_8, xk_b, xn, up_us, up_up, c_6]; done))), (by first | with_reducible rfl | (subst er_1; first | with_reducible rfl | (simp only [sa_ap, si_ap, si_sa, sa_sa, sa_3, sa_4, sa_5, sa_6, sa_7, sa_8, xk_b, xn, up_us, up_up, c_6]; done) | (simp [sa_ap, si_ap, si_sa, sa_sa, sa_3, sa_4, sa_5, sa_6, sa_7, sa_8, xk_b, xn, up_us, up_up, c_6]; done))), (by first | with_reducible rfl | (subst er_1; first | with_reducible rfl | (simp only [sa_ap, si_ap, si_sa, sa_sa, sa_3, sa_4, sa_5, sa_6, sa_7, sa_8, xk_b, xn, up_us, up_up, c_6]; done) | (simp [sa_ap, si_ap, si_sa, sa_sa, sa_3, sa_4, sa_5, sa_6, sa_7, sa_8, xk_b, xn, up_us, up_up, c_6]; done))), rfl, rfl⟩

set_option maxHeartbeats 400000 in
set_option maxRecDepth 100000 in
/-- value.value -/
theorem c_X10_value (l : Launch) (D : va_G) (cy : Nat → ClassId) (A : Nat → Prop) (ad sad : Nat → Nat) (X M : XF) (K : KF) (p1 : Int32) (z : Nat) (hz : X 105 0 = nI z) (hzl : z ≤ 12) (ho : ∀ j : Nat, j < z → okAb (X 25 j) (X 26 j)) (hst : l.stackTraces = false) : vx_Met l yX10_value (wsA yX10_value cX10_value 2 (some .int)) ({ frames := 6, cells := 1, slots := 6, locals := 82 }) (PcW D cy A ad sad X M K [.ref (ad 0), .int p1]) (QiW D cy A ad (fun r X1 M1 K1 => xk_b p1 (nI z) = 0 ∧ r = cl_val X p1.toNatClampNeg ∧ X1 = X ∧ M1 = M ∧ K1 = K)) (XcW D cy A ad (fun E X1 M1 K1 => ¬ xk_b p1 (nI z) = 0 ∧ E = xn "java/lang/IndexOutOfBoundsException" "java/lang/IndexOutOfBoundsException" "java/lang/IndexOutOfBoundsException" (xk_b p1 (nI z)) ∧ X1 = X ∧ M1 = M ∧ K1 = K)) 1 6 A := by
  refine vet_ofW [(0, .ref (ad 0)), (1, .int p1)] (by decide +kernel) (Nat.le_of_ble_eq_true rfl) rfl ?_
  intro G C hl hR hL hD hcy hA had hsa hr ht hQ
  subst hD hcy hA had hsa hl
  refine g_iload_n C dX10_value_0 1 rfl ?_
  refine g_aload_n C dX10_value_1 0 rfl ?_
  refine gf_X10_rules C tw329 dX10_value_2 ?_
  refine gf_X6_size C tw185 dX10_value_5 ?_
  refine g_topi hz ?_
  refine g_callSiW C dX10_value_8 (c_X10_isBelow _ _ _ _ _ _ _ _ _ _ _) tw499 tw500 tw1 tw501 rfl ⟨by decide +kernel, by decide +kernel, rfl⟩ ⟨rfl, rfl⟩ (by rw [hR]; decide) (Nat.le_of_ble_eq_true rfl) (by rw [hR]; decide) (fun r_1 X1 M1 K1 h_2 => ?_)
  obtain ⟨er_1, hX1, hM1, hK1⟩ := h_2
  subst X1 M1 K1
  try simp only [sa_ap, si_ap, reduceIte, Nat.reduceEqDiff] at er_1
  refine g_if_ne C dX10_value_11 (tgt := 24) (by decide) (fun c_11 => ?_) (fun c_11 => ?_)
  · try simp only [sa_ap, si_ap, reduceIte, Nat.reduceEqDiff, up_us, lg_cmp_lt, lg_cmp_gt, lg_cmp_le, lg_cmp_ge] at c_11
    obtain ⟨j, hj, rfl⟩ := bel_ix (p := p1) (s := nI z) (n := z) rfl (by omega) (by rw [← er_1]; exact c_11)
    have c_clj : (nI j).toNatClampNeg = j := nI_clamp (by omega)
    refine g_aload_n C dX10_value_24 0 rfl ?_
    refine g_iload_n C dX10_value_25 1 rfl ?_
    refine g_callViW C dX10_value_26 (c_X10_valueFor _ _ _ _ _ _ _ _ _ j (by omega) (ho j hj)) tw922 tw924 tp8 tw1 tw925 (rv_X10 C) rfl ⟨by decide +kernel, by decide +kernel, rfl⟩ ⟨rfl, rfl⟩ (by rw [hR]; decide) (Nat.le_of_ble_eq_true rfl) (by rw [hR]; decide) (fun r_3 X1 M1 K1 h_4 => ?_)
    obtain ⟨er_3, hX1, hM1, hK1⟩ := h_4
    subst X1 M1 K1
    try simp only [sa_ap, si_ap, reduceIte, Nat.reduceEqDiff] at er_3
    refine g_iretWX C hr hQ (by decide) (by decide) dX10_value_29 ?_
    exact ⟨(by first | with_reducible rfl | (subst er_1 er_3; first | with_reducible rfl | (simp only [sa_ap, si_ap, si_sa, sa_sa, sa_3, sa_4, sa_5, sa_6, sa_7, sa_8, xk_b, xn, up_us, up_up, c_11, c_clj]; done) | (simp [sa_ap, si_ap, si_sa, sa_sa, sa_3, sa_4, sa_5, sa_6, sa_7, sa_8, xk_b, xn, up_us, up_up, c_11, c_clj]; done))), (by first | with_reducible rfl | (subst er_1 er_3; first | with_reducible rfl | (simp only [sa_ap, si_ap, si_sa, sa_sa, sa_3, sa_4, sa_5, sa_6, sa_7, sa_8, xk_b, xn, up_us, up_up, c_11, c_clj]; done) | (simp [sa_ap, si_ap, si_sa, sa_sa, sa_3, sa_4, sa_5, sa_6, sa_7, sa_8, xk_b, xn, up_us, up_up, c_11, c_clj]; done))), (by first | with_reducible rfl | (subst er_1 er_3; first | with_reducible rfl | (simp only [sa_ap, si_ap, si_sa, sa_sa, sa_3, sa_4, sa_5, sa_6, sa_7, sa_8, xk_b, xn, up_us, up_up, c_11, c_clj]; done) | (simp [sa_ap, si_ap, si_sa, sa_sa, sa_3, sa_4, sa_5, sa_6, sa_7, sa_8, xk_b, xn, up_us, up_up, c_11, c_clj]; done))), rfl, rfl⟩
  · try simp only [sa_ap, si_ap, reduceIte, Nat.reduceEqDiff, up_us, lg_cmp_lt, lg_cmp_gt, lg_cmp_le, lg_cmp_ge] at c_11
    refine g_throwS C hst ht hQ th_146 th_ot_146 tw587 tw19 (i := 16) ⟨by decide, rfl⟩ dX10_value_14 dX10_value_17 dX10_value_18 dX10_value_20 dX10_value_23 (by rw [hR]; decide) (by rw [hR]; decide) (by decide) ?_
    exact ⟨(by first | with_reducible rfl | (subst er_1; first | with_reducible rfl | (simp only [sa_ap, si_ap, si_sa, sa_sa, sa_3, sa_4, sa_5, sa_6, sa_7, sa_8, xk_b, xn, up_us, up_up, c_11]; done) | (simp [sa_ap, si_ap, si_sa, sa_sa, sa_3, sa_4, sa_5, sa_6, sa_7, sa_8, xk_b, xn, up_us, up_up, c_11]; done))), (by first | with_reducible rfl | (subst er_1; first | with_reducible rfl | (simp only [sa_ap, si_ap, si_sa, sa_sa, sa_3, sa_4, sa_5, sa_6, sa_7, sa_8, xk_b, xn, up_us, up_up, c_11]; done) | (simp [sa_ap, si_ap, si_sa, sa_sa, sa_3, sa_4, sa_5, sa_6, sa_7, sa_8, xk_b, xn, up_us, up_up, c_11]; done))), (by first | with_reducible rfl | (subst er_1; first | with_reducible rfl | (simp only [sa_ap, si_ap, si_sa, sa_sa, sa_3, sa_4, sa_5, sa_6, sa_7, sa_8, xk_b, xn, up_us, up_up, c_11]; done) | (simp [sa_ap, si_ap, si_sa, sa_sa, sa_3, sa_4, sa_5, sa_6, sa_7, sa_8, xk_b, xn, up_us, up_up, c_11]; done))), rfl, rfl⟩

set_option maxHeartbeats 400000 in
set_option maxRecDepth 100000 in
/-- holdsFor.holdsFor -/
theorem c_X10_holdsFor (l : Launch) (D : va_G) (cy : Nat → ClassId) (A : Nat → Prop) (ad sad : Nat → Nat) (X M : XF) (K : KF) (p1 : Int32) (z : Nat) (hz : X 105 0 = nI z) (hzl : z ≤ 12) (hst : l.stackTraces = false) : vx_Met l yX10_holdsFor (wsA yX10_holdsFor cX10_holdsFor 2 (some .int)) ({ frames := 6, cells := 1, slots := 6, locals := 82 }) (PcW D cy A ad sad X M K [.ref (ad 0), .int p1]) (QiW D cy A ad (fun r X1 M1 K1 => xk_b p1 (nI z) = 0 ∧ r = X 31 p1.toNatClampNeg ∧ X1 = X ∧ M1 = M ∧ K1 = K)) (XcW D cy A ad (fun E X1 M1 K1 => ¬ xk_b p1 (nI z) = 0 ∧ E = xn "java/lang/IndexOutOfBoundsException" "java/lang/IndexOutOfBoundsException" "java/lang/IndexOutOfBoundsException" (xk_b p1 (nI z)) ∧ X1 = X ∧ M1 = M ∧ K1 = K)) 1 6 A := by
  refine vet_ofW [(0, .ref (ad 0)), (1, .int p1)] (by decide +kernel) (Nat.le_of_ble_eq_true rfl) rfl ?_
  intro G C hl hR hL hD hcy hA had hsa hr ht hQ
  subst hD hcy hA had hsa hl
  refine g_iload_n C dX10_holdsFor_0 1 rfl ?_
  refine g_aload_n C dX10_holdsFor_1 0 rfl ?_
  refine gf_X10_rules C tw329 dX10_holdsFor_2 ?_
  refine gf_X6_size C tw185 dX10_holdsFor_5 ?_
  refine g_topi hz ?_
  refine g_callSiW C dX10_holdsFor_8 (c_X10_isBelow _ _ _ _ _ _ _ _ _ _ _) tw499 tw500 tw1 tw501 rfl ⟨by decide +kernel, by decide +kernel, rfl⟩ ⟨rfl, rfl⟩ (by rw [hR]; decide) (Nat.le_of_ble_eq_true rfl) (by rw [hR]; decide) (fun r_1 X1 M1 K1 h_2 => ?_)
  obtain ⟨er_1, hX1, hM1, hK1⟩ := h_2
  subst X1 M1 K1
  try simp only [sa_ap, si_ap, reduceIte, Nat.reduceEqDiff] at er_1
  refine g_if_ne C dX10_holdsFor_11 (tgt := 24) (by decide) (fun c_11 => ?_) (fun c_11 => ?_)
  · try simp only [sa_ap, si_ap, reduceIte, Nat.reduceEqDiff, up_us, lg_cmp_lt, lg_cmp_gt, lg_cmp_le, lg_cmp_ge] at c_11
    obtain ⟨j, hj, rfl⟩ := bel_ix (p := p1) (s := nI z) (n := z) rfl (by omega) (by rw [← er_1]; exact c_11)
    have c_clj : (nI j).toNatClampNeg = j := nI_clamp (by omega)
    refine g_aload_n C dX10_holdsFor_24 0 rfl ?_
    refine gf_X10_rules C tw329 dX10_holdsFor_25 ?_
    refine gf_X6_heldFor C tw177 dX10_holdsFor_28 ?_
    refine g_iload_n C dX10_holdsFor_31 1 rfl ?_
    refine al_31 C (by omega) dX10_holdsFor_32 ?_
    refine g_iretWX C hr hQ (by decide) (by decide) dX10_holdsFor_33 ?_
    exact ⟨(by first | with_reducible rfl | (subst er_1; first | with_reducible rfl | (simp only [sa_ap, si_ap, si_sa, sa_sa, sa_3, sa_4, sa_5, sa_6, sa_7, sa_8, xk_b, xn, up_us, up_up, c_11, c_clj]; done) | (simp [sa_ap, si_ap, si_sa, sa_sa, sa_3, sa_4, sa_5, sa_6, sa_7, sa_8, xk_b, xn, up_us, up_up, c_11, c_clj]; done))), (by first | with_reducible rfl | (subst er_1; first | with_reducible rfl | (simp only [sa_ap, si_ap, si_sa, sa_sa, sa_3, sa_4, sa_5, sa_6, sa_7, sa_8, xk_b, xn, up_us, up_up, c_11, c_clj]; done) | (simp [sa_ap, si_ap, si_sa, sa_sa, sa_3, sa_4, sa_5, sa_6, sa_7, sa_8, xk_b, xn, up_us, up_up, c_11, c_clj]; done))), (by first | with_reducible rfl | (subst er_1; first | with_reducible rfl | (simp only [sa_ap, si_ap, si_sa, sa_sa, sa_3, sa_4, sa_5, sa_6, sa_7, sa_8, xk_b, xn, up_us, up_up, c_11, c_clj]; done) | (simp [sa_ap, si_ap, si_sa, sa_sa, sa_3, sa_4, sa_5, sa_6, sa_7, sa_8, xk_b, xn, up_us, up_up, c_11, c_clj]; done))), rfl, rfl⟩
  · try simp only [sa_ap, si_ap, reduceIte, Nat.reduceEqDiff, up_us, lg_cmp_lt, lg_cmp_gt, lg_cmp_le, lg_cmp_ge] at c_11
    refine g_throwS C hst ht hQ th_146 th_ot_146 tw587 tw19 (i := 16) ⟨by decide, rfl⟩ dX10_holdsFor_14 dX10_holdsFor_17 dX10_holdsFor_18 dX10_holdsFor_20 dX10_holdsFor_23 (by rw [hR]; decide) (by rw [hR]; decide) (by decide) ?_
    exact ⟨(by first | with_reducible rfl | (subst er_1; first | with_reducible rfl | (simp only [sa_ap, si_ap, si_sa, sa_sa, sa_3, sa_4, sa_5, sa_6, sa_7, sa_8, xk_b, xn, up_us, up_up, c_11]; done) | (simp [sa_ap, si_ap, si_sa, sa_sa, sa_3, sa_4, sa_5, sa_6, sa_7, sa_8, xk_b, xn, up_us, up_up, c_11]; done))), (by first | with_reducible rfl | (subst er_1; first | with_reducible rfl | (simp only [sa_ap, si_ap, si_sa, sa_sa, sa_3, sa_4, sa_5, sa_6, sa_7, sa_8, xk_b, xn, up_us, up_up, c_11]; done) | (simp [sa_ap, si_ap, si_sa, sa_sa, sa_3, sa_4, sa_5, sa_6, sa_7, sa_8, xk_b, xn, up_us, up_up, c_11]; done))), (by first | with_reducible rfl | (subst er_1; first | with_reducible rfl | (simp only [sa_ap, si_ap, si_sa, sa_sa, sa_3, sa_4, sa_5, sa_6, sa_7, sa_8, xk_b, xn, up_us, up_up, c_11]; done) | (simp [sa_ap, si_ap, si_sa, sa_sa, sa_3, sa_4, sa_5, sa_6, sa_7, sa_8, xk_b, xn, up_us, up_up, c_11]; done))), rfl, rfl⟩

set_option maxHeartbeats 400000 in
set_option maxRecDepth 100000 in
/-- isMet.isMet -/
theorem c_X10_isMet (l : Launch) (D : va_G) (cy : Nat → ClassId) (A : Nat → Prop) (ad sad : Nat → Nat) (X M : XF) (K : KF) (p1 : Int32) (z : Nat) (hz : X 105 0 = nI z) (hzl : z ≤ 12) (ho : ∀ j : Nat, j < z → okAb (X 25 j) (X 26 j)) (hst : l.stackTraces = false) : vx_Met l yX10_isMet (wsA yX10_isMet cX10_isMet 2 (some .boolean)) ({ frames := 6, cells := 1, slots := 6, locals := 93 }) (PcW D cy A ad sad X M K [.ref (ad 0), .int p1]) (QiW D cy A ad (fun r X1 M1 K1 => xk_b p1 (nI z) = 0 ∧ r = cl_met X p1.toNatClampNeg ∧ X1 = X ∧ M1 = M ∧ K1 = K)) (XcW D cy A ad (fun E X1 M1 K1 => ¬ xk_b p1 (nI z) = 0 ∧ E = xn "java/lang/IndexOutOfBoundsException" "java/lang/IndexOutOfBoundsException" "java/lang/IndexOutOfBoundsException" (xk_b p1 (nI z)) ∧ X1 = X ∧ M1 = M ∧ K1 = K)) 1 6 A := by
  refine vet_ofW [(0, .ref (ad 0)), (1, .int p1)] (by decide +kernel) (Nat.le_of_ble_eq_true rfl) rfl ?_
  intro G C hl hR hL hD hcy hA had hsa hr ht hQ
  subst hD hcy hA had hsa hl
  refine g_iload_n C dX10_isMet_0 1 rfl ?_
  refine g_aload_n C dX10_isMet_1 0 rfl ?_
  refine gf_X10_rules C tw329 dX10_isMet_2 ?_
  refine gf_X6_size C tw185 dX10_isMet_5 ?_
  refine g_topi hz ?_
  refine g_callSiW C dX10_isMet_8 (c_X10_isBelow _ _ _ _ _ _ _ _ _ _ _) tw499 tw500 tw1 tw501 rfl ⟨by decide +kernel, by decide +kernel, rfl⟩ ⟨rfl, rfl⟩ (by rw [hR]; decide) (Nat.le_of_ble_eq_true rfl) (by rw [hR]; decide) (fun r_1 X1 M1 K1 h_2 => ?_)
  obtain ⟨er_1, hX1, hM1, hK1⟩ := h_2
  subst X1 M1 K1
  try simp only [sa_ap, si_ap, reduceIte, Nat.reduceEqDiff] at er_1
  refine g_if_ne C dX10_isMet_11 (tgt := 24) (by decide) (fun c_11 => ?_) (fun c_11 => ?_)
  · try simp only [sa_ap, si_ap, reduceIte, Nat.reduceEqDiff, up_us, lg_cmp_lt, lg_cmp_gt, lg_cmp_le, lg_cmp_ge] at c_11
    obtain ⟨j, hj, rfl⟩ := bel_ix (p := p1) (s := nI z) (n := z) rfl (by omega) (by rw [← er_1]; exact c_11)
    have c_clj : (nI j).toNatClampNeg = j := nI_clamp (by omega)
    refine g_aload_n C dX10_isMet_24 0 rfl ?_
    refine g_iload_n C dX10_isMet_25 1 rfl ?_
    refine g_callViW C dX10_isMet_26 (c_X10_isMetOrWaived _ _ _ _ _ _ _ _ _ j (by omega) (ho j hj)) tw1045 tw1047 tp14 tw1 tw1048 (rv_X10 C) rfl ⟨by decide +kernel, by decide +kernel, rfl⟩ ⟨rfl, rfl⟩ (by rw [hR]; decide) (Nat.le_of_ble_eq_true rfl) (by rw [hR]; decide) (fun r_3 X1 M1 K1 h_4 => ?_)
    obtain ⟨er_3, hX1, hM1, hK1⟩ := h_4
    subst X1 M1 K1
    try simp only [sa_ap, si_ap, reduceIte, Nat.reduceEqDiff] at er_3
    refine g_zretWX C hr (by subst er_3; exact (isBo.na (cl_met_bo _ _)).1) hQ (by decide) (by decide) dX10_isMet_29 ?_
    exact ⟨(by first | with_reducible rfl | (subst er_1 er_3; first | with_reducible rfl | (simp only [sa_ap, si_ap, si_sa, sa_sa, sa_3, sa_4, sa_5, sa_6, sa_7, sa_8, xk_b, xn, up_us, up_up, c_11, c_clj]; done) | (simp [sa_ap, si_ap, si_sa, sa_sa, sa_3, sa_4, sa_5, sa_6, sa_7, sa_8, xk_b, xn, up_us, up_up, c_11, c_clj]; done))), (by first | with_reducible rfl | (subst er_1 er_3; first | with_reducible rfl | (simp only [sa_ap, si_ap, si_sa, sa_sa, sa_3, sa_4, sa_5, sa_6, sa_7, sa_8, xk_b, xn, up_us, up_up, c_11, c_clj]; done) | (simp [sa_ap, si_ap, si_sa, sa_sa, sa_3, sa_4, sa_5, sa_6, sa_7, sa_8, xk_b, xn, up_us, up_up, c_11, c_clj]; done))), (by first | with_reducible rfl | (subst er_1 er_3; first | with_reducible rfl | (simp only [sa_ap, si_ap, si_sa, sa_sa, sa_3, sa_4, sa_5, sa_6, sa_7, sa_8, xk_b, xn, up_us, up_up, c_11, c_clj]; done) | (simp [sa_ap, si_ap, si_sa, sa_sa, sa_3, sa_4, sa_5, sa_6, sa_7, sa_8, xk_b, xn, up_us, up_up, c_11, c_clj]; done))), rfl, rfl⟩
  · try simp only [sa_ap, si_ap, reduceIte, Nat.reduceEqDiff, up_us, lg_cmp_lt, lg_cmp_gt, lg_cmp_le, lg_cmp_ge] at c_11
    refine g_throwS C hst ht hQ th_146 th_ot_146 tw587 tw19 (i := 16) ⟨by decide, rfl⟩ dX10_isMet_14 dX10_isMet_17 dX10_isMet_18 dX10_isMet_20 dX10_isMet_23 (by rw [hR]; decide) (by rw [hR]; decide) (by decide) ?_
    exact ⟨(by first | with_reducible rfl | (subst er_1; first | with_reducible rfl | (simp only [sa_ap, si_ap, si_sa, sa_sa, sa_3, sa_4, sa_5, sa_6, sa_7, sa_8, xk_b, xn, up_us, up_up, c_11]; done) | (simp [sa_ap, si_ap, si_sa, sa_sa, sa_3, sa_4, sa_5, sa_6, sa_7, sa_8, xk_b, xn, up_us, up_up, c_11]; done))), (by first | with_reducible rfl | (subst er_1; first | with_reducible rfl | (simp only [sa_ap, si_ap, si_sa, sa_sa, sa_3, sa_4, sa_5, sa_6, sa_7, sa_8, xk_b, xn, up_us, up_up, c_11]; done) | (simp [sa_ap, si_ap, si_sa, sa_sa, sa_3, sa_4, sa_5, sa_6, sa_7, sa_8, xk_b, xn, up_us, up_up, c_11]; done))), (by first | with_reducible rfl | (subst er_1; first | with_reducible rfl | (simp only [sa_ap, si_ap, si_sa, sa_sa, sa_3, sa_4, sa_5, sa_6, sa_7, sa_8, xk_b, xn, up_us, up_up, c_11]; done) | (simp [sa_ap, si_ap, si_sa, sa_sa, sa_3, sa_4, sa_5, sa_6, sa_7, sa_8, xk_b, xn, up_us, up_up, c_11]; done))), rfl, rfl⟩

set_option maxHeartbeats 400000 in
set_option maxRecDepth 100000 in
/-- track.track -/
theorem c_X10_track (l : Launch) (D : va_G) (cy : Nat → ClassId) (A : Nat → Prop) (ad sad : Nat → Nat) (X M : XF) (K : KF) (p1 p2 : Int32) (hst : l.stackTraces = false) : vx_Met l yX10_track (wsA yX10_track cX10_track 4 (some .int)) ({ frames := 6, cells := 1, slots := 6, locals := 82 }) (PcW D cy A ad sad X M K [.ref (ad 0), .int p1, .int p2]) (QiW D cy A ad (fun r X1 M1 K1 => xk_track p1 p2 = 0 ∧ r = X 37 p1.toNatClampNeg ∧ X1 = sa X 37 (upd (X 37) p1.toNatClampNeg p2) ∧ M1 = M ∧ K1 = K)) (XcW D cy A ad (fun E X1 M1 K1 => ¬ xk_track p1 p2 = 0 ∧ E = xn "java/lang/IllegalArgumentException" "java/lang/IllegalArgumentException" "java/lang/IllegalArgumentException" (xk_track p1 p2) ∧ X1 = X ∧ M1 = M ∧ K1 = K)) 1 6 A := by
  refine vet_ofW [(0, .ref (ad 0)), (1, .int p1), (2, .int p2)] (by decide +kernel) (Nat.le_of_ble_eq_true rfl) rfl ?_
  intro G C hl hR hL hD hcy hA had hsa hr ht hQ
  subst hD hcy hA had hsa hl
  refine g_iload_n C dX10_track_0 1 rfl ?_
  refine g_iconst C dX10_track_1 (v := 2) (by decide) ?_
  refine g_callSiW C dX10_track_2 (c_X10_isBelow _ _ _ _ _ _ _ _ _ _ _) tw499 tw500 tw1 tw501 rfl ⟨by decide +kernel, by decide +kernel, rfl⟩ ⟨rfl, rfl⟩ (by rw [hR]; decide) (Nat.le_of_ble_eq_true rfl) (by rw [hR]; decide) (fun r_1 X1 M1 K1 h_2 => ?_)
  obtain ⟨er_1, hX1, hM1, hK1⟩ := h_2
  subst X1 M1 K1
  try simp only [sa_ap, si_ap, reduceIte, Nat.reduceEqDiff] at er_1
  refine g_if_eq C dX10_track_5 (tgt := 21) (by decide) (fun c_5 => ?_) (fun c_5 => ?_)
  · try simp only [sa_ap, si_ap, reduceIte, Nat.reduceEqDiff, up_us, lg_cmp_lt, lg_cmp_gt, lg_cmp_le, lg_cmp_ge] at c_5
    refine g_throwS C hst ht hQ th_103 th_ot_103 tw506 tw21 (i := 3) ⟨by decide, rfl⟩ dX10_track_21 dX10_track_24 dX10_track_25 dX10_track_27 dX10_track_30 (by rw [hR]; decide) (by rw [hR]; decide) (by decide) ?_
    exact ⟨(by first | with_reducible rfl | (subst er_1; first | with_reducible rfl | (simp only [sa_ap, si_ap, si_sa, sa_sa, sa_3, sa_4, sa_5, sa_6, sa_7, sa_8, xk_track, xn, up_us, up_up, c_5]; done) | (simp [sa_ap, si_ap, si_sa, sa_sa, sa_3, sa_4, sa_5, sa_6, sa_7, sa_8, xk_track, xn, up_us, up_up, c_5]; done))), (by first | with_reducible rfl | (subst er_1; first | with_reducible rfl | (simp only [sa_ap, si_ap, si_sa, sa_sa, sa_3, sa_4, sa_5, sa_6, sa_7, sa_8, xk_track, xn, up_us, up_up, c_5]; done) | (simp [sa_ap, si_ap, si_sa, sa_sa, sa_3, sa_4, sa_5, sa_6, sa_7, sa_8, xk_track, xn, up_us, up_up, c_5]; done))), (by first | with_reducible rfl | (subst er_1; first | with_reducible rfl | (simp only [sa_ap, si_ap, si_sa, sa_sa, sa_3, sa_4, sa_5, sa_6, sa_7, sa_8, xk_track, xn, up_us, up_up, c_5]; done) | (simp [sa_ap, si_ap, si_sa, sa_sa, sa_3, sa_4, sa_5, sa_6, sa_7, sa_8, xk_track, xn, up_us, up_up, c_5]; done))), rfl, rfl⟩
  · try simp only [sa_ap, si_ap, reduceIte, Nat.reduceEqDiff, up_us, lg_cmp_lt, lg_cmp_gt, lg_cmp_le, lg_cmp_ge] at c_5
    obtain ⟨j, hj, rfl⟩ := bel_ix (p := p1) (s := 2) (n := 2) rfl (by omega) (by rw [← er_1]; exact c_5)
    have c_clj : (nI j).toNatClampNeg = j := nI_clamp (by omega)
    refine g_iload_n C dX10_track_8 2 rfl ?_
    refine g_sipush C dX10_track_9 (v := (-999)) (by decide) ?_
    refine g_sipush C dX10_track_12 (v := 999) (by decide) ?_
    refine g_callSiW C dX10_track_15 (c_X10_isWithin _ _ _ _ _ _ _ _ _ _ _ _) tw503 tw504 tw1 tw505 rfl ⟨by decide +kernel, by decide +kernel, rfl⟩ ⟨rfl, rfl⟩ (by rw [hR]; decide) (Nat.le_of_ble_eq_true rfl) (by rw [hR]; decide) (fun r_3 X1 M1 K1 h_4 => ?_)
    obtain ⟨er_3, hX1, hM1, hK1⟩ := h_4
    subst X1 M1 K1
    try simp only [sa_ap, si_ap, reduceIte, Nat.reduceEqDiff] at er_3
    refine g_if_ne C dX10_track_18 (tgt := 31) (by decide) (fun c_18 => ?_) (fun c_18 => ?_)
    · try simp only [sa_ap, si_ap, reduceIte, Nat.reduceEqDiff, up_us, lg_cmp_lt, lg_cmp_gt, lg_cmp_le, lg_cmp_ge] at c_18
      refine g_aload_n C dX10_track_31 0 rfl ?_
      refine gf_X10_flight C tw331 dX10_track_32 ?_
      refine gf_X2_off C tw257 dX10_track_35 ?_
      refine g_iload_n C dX10_track_38 1 rfl ?_
      refine al_37 C (by omega) dX10_track_39 ?_
      refine g_topi rfl ?_
      refine g_istore_n C dX10_track_40 (L' := [(3, .int (X 37 j)), (0, .ref (gad G 0)), (1, .int (nI j)), (2, .int p2)]) rfl (by rw [hL]; decide) ?_
      refine g_aload_n C dX10_track_41 1 rfl ?_
      refine gf_X10_flight C tw331 dX10_track_42 ?_
      refine gf_X2_off C tw257 dX10_track_45 ?_
      refine g_iload_n C dX10_track_48 2 rfl ?_
      refine g_iload_n C dX10_track_49 3 rfl ?_
      refine as_37 C (by omega) dX10_track_50 ?_
      refine g_iload_n C dX10_track_51 0 rfl ?_
      refine g_iretWX C hr hQ (by decide) (by decide) dX10_track_52 ?_
      exact ⟨(by first | with_reducible rfl | (subst er_1 er_3; first | with_reducible rfl | (simp only [sa_ap, si_ap, si_sa, sa_sa, sa_3, sa_4, sa_5, sa_6, sa_7, sa_8, xk_track, xn, up_us, up_up, c_5, c_clj, c_18]; done) | (simp [sa_ap, si_ap, si_sa, sa_sa, sa_3, sa_4, sa_5, sa_6, sa_7, sa_8, xk_track, xn, up_us, up_up, c_5, c_clj, c_18]; done))), (by first | with_reducible rfl | (subst er_1 er_3; first | with_reducible rfl | (simp only [sa_ap, si_ap, si_sa, sa_sa, sa_3, sa_4, sa_5, sa_6, sa_7, sa_8, xk_track, xn, up_us, up_up, c_5, c_clj, c_18]; done) | (simp [sa_ap, si_ap, si_sa, sa_sa, sa_3, sa_4, sa_5, sa_6, sa_7, sa_8, xk_track, xn, up_us, up_up, c_5, c_clj, c_18]; done))), (by first | with_reducible rfl | (subst er_1 er_3; first | with_reducible rfl | (simp only [sa_ap, si_ap, si_sa, sa_sa, sa_3, sa_4, sa_5, sa_6, sa_7, sa_8, xk_track, xn, up_us, up_up, c_5, c_clj, c_18]; done) | (simp [sa_ap, si_ap, si_sa, sa_sa, sa_3, sa_4, sa_5, sa_6, sa_7, sa_8, xk_track, xn, up_us, up_up, c_5, c_clj, c_18]; done))), rfl, rfl⟩
    · try simp only [sa_ap, si_ap, reduceIte, Nat.reduceEqDiff, up_us, lg_cmp_lt, lg_cmp_gt, lg_cmp_le, lg_cmp_ge] at c_18
      refine g_throwS C hst ht hQ th_103 th_ot_103 tw506 tw21 (i := 3) ⟨by decide, rfl⟩ dX10_track_21 dX10_track_24 dX10_track_25 dX10_track_27 dX10_track_30 (by rw [hR]; decide) (by rw [hR]; decide) (by decide) ?_
      exact ⟨(by first | with_reducible rfl | (subst er_1 er_3; first | with_reducible rfl | (simp only [sa_ap, si_ap, si_sa, sa_sa, sa_3, sa_4, sa_5, sa_6, sa_7, sa_8, xk_track, xn, up_us, up_up, c_5, c_clj, c_18]; done) | (simp [sa_ap, si_ap, si_sa, sa_sa, sa_3, sa_4, sa_5, sa_6, sa_7, sa_8, xk_track, xn, up_us, up_up, c_5, c_clj, c_18]; done))), (by first | with_reducible rfl | (subst er_1 er_3; first | with_reducible rfl | (simp only [sa_ap, si_ap, si_sa, sa_sa, sa_3, sa_4, sa_5, sa_6, sa_7, sa_8, xk_track, xn, up_us, up_up, c_5, c_clj, c_18]; done) | (simp [sa_ap, si_ap, si_sa, sa_sa, sa_3, sa_4, sa_5, sa_6, sa_7, sa_8, xk_track, xn, up_us, up_up, c_5, c_clj, c_18]; done))), (by first | with_reducible rfl | (subst er_1 er_3; first | with_reducible rfl | (simp only [sa_ap, si_ap, si_sa, sa_sa, sa_3, sa_4, sa_5, sa_6, sa_7, sa_8, xk_track, xn, up_us, up_up, c_5, c_clj, c_18]; done) | (simp [sa_ap, si_ap, si_sa, sa_sa, sa_3, sa_4, sa_5, sa_6, sa_7, sa_8, xk_track, xn, up_us, up_up, c_5, c_clj, c_18]; done))), rfl, rfl⟩

set_option maxHeartbeats 400000 in
set_option maxRecDepth 100000 in
/-- count.count -/
theorem c_X10_count (l : Launch) (D : va_G) (cy : Nat → ClassId) (A : Nat → Prop) (ad sad : Nat → Nat) (X M : XF) (K : KF) (hst : l.stackTraces = false) : vx_Met l yX10_count (wsA yX10_count cX10_count 1 (some .int)) ({ frames := 6, cells := 1, slots := 6, locals := 82 }) (PcW D cy A ad sad X M K [.ref (ad 0)]) (QiW D cy A ad (fun r X1 M1 K1 => xk_beg (X 118 0) = 0 ∧ r = X 106 0 ∧ X1 = X ∧ M1 = M ∧ K1 = K)) (XcW D cy A ad (fun E X1 M1 K1 => ¬ xk_beg (X 118 0) = 0 ∧ E = xn "java/lang/IllegalStateException" "java/lang/IllegalStateException" "java/lang/IllegalStateException" (xk_beg (X 118 0)) ∧ X1 = X ∧ M1 = M ∧ K1 = K)) 1 6 A := by
  refine vet_ofW [(0, .ref (ad 0))] (by decide +kernel) (Nat.le_of_ble_eq_true rfl) rfl ?_
  intro G C hl hR hL hD hcy hA had hsa hr ht hQ
  subst hD hcy hA had hsa hl
  refine g_aload_n C dX10_count_0 0 rfl ?_
  refine gf_X10_log C tw332 dX10_count_1 ?_
  refine gf_X4_state C tw314 dX10_count_4 ?_
  refine g_bipush C dX10_count_7 (v := 45) (by decide) ?_
  refine g_icmp_ne C dX10_count_9 (tgt := 23) (by decide) (fun c_9 => ?_) (fun c_9 => ?_)
  · try simp only [sa_ap, si_ap, reduceIte, Nat.reduceEqDiff, up_us, lg_cmp_lt, lg_cmp_gt, lg_cmp_le, lg_cmp_ge] at c_9
    refine g_aload_n C dX10_count_23 0 rfl ?_
    refine gf_X10_countdown C tw330 dX10_count_24 ?_
    refine gf_X1_at C tw216 dX10_count_27 ?_
    refine g_iretWX C hr hQ (by decide) (by decide) dX10_count_30 ?_
    exact ⟨(by first | with_reducible rfl | (first | with_reducible rfl | (simp only [sa_ap, si_ap, si_sa, sa_sa, sa_3, sa_4, sa_5, sa_6, sa_7, sa_8, xk_beg, xn, up_us, up_up, c_9]; done) | (simp [sa_ap, si_ap, si_sa, sa_sa, sa_3, sa_4, sa_5, sa_6, sa_7, sa_8, xk_beg, xn, up_us, up_up, c_9]; done))), (by first | with_reducible rfl | (first | with_reducible rfl | (simp only [sa_ap, si_ap, si_sa, sa_sa, sa_3, sa_4, sa_5, sa_6, sa_7, sa_8, xk_beg, xn, up_us, up_up, c_9]; done) | (simp [sa_ap, si_ap, si_sa, sa_sa, sa_3, sa_4, sa_5, sa_6, sa_7, sa_8, xk_beg, xn, up_us, up_up, c_9]; done))), (by first | with_reducible rfl | (first | with_reducible rfl | (simp only [sa_ap, si_ap, si_sa, sa_sa, sa_3, sa_4, sa_5, sa_6, sa_7, sa_8, xk_beg, xn, up_us, up_up, c_9]; done) | (simp [sa_ap, si_ap, si_sa, sa_sa, sa_3, sa_4, sa_5, sa_6, sa_7, sa_8, xk_beg, xn, up_us, up_up, c_9]; done))), rfl, rfl⟩
  · try simp only [sa_ap, si_ap, reduceIte, Nat.reduceEqDiff, up_us, lg_cmp_lt, lg_cmp_gt, lg_cmp_le, lg_cmp_ge] at c_9
    refine g_throwW C hst ht hQ th_138 th_ot_138 tw563 tw23 (i := 25) ⟨by decide, rfl⟩ dX10_count_12 dX10_count_15 dX10_count_16 dX10_count_19 dX10_count_22 (by rw [hR]; decide) (by rw [hR]; decide) (by decide) ?_
    exact ⟨(by first | with_reducible rfl | (first | with_reducible rfl | (simp only [sa_ap, si_ap, si_sa, sa_sa, sa_3, sa_4, sa_5, sa_6, sa_7, sa_8, xk_beg, xn, up_us, up_up, c_9]; done) | (simp [sa_ap, si_ap, si_sa, sa_sa, sa_3, sa_4, sa_5, sa_6, sa_7, sa_8, xk_beg, xn, up_us, up_up, c_9]; done))), (by first | with_reducible rfl | (first | with_reducible rfl | (simp only [sa_ap, si_ap, si_sa, sa_sa, sa_3, sa_4, sa_5, sa_6, sa_7, sa_8, xk_beg, xn, up_us, up_up, c_9]; done) | (simp [sa_ap, si_ap, si_sa, sa_sa, sa_3, sa_4, sa_5, sa_6, sa_7, sa_8, xk_beg, xn, up_us, up_up, c_9]; done))), (by first | with_reducible rfl | (first | with_reducible rfl | (simp only [sa_ap, si_ap, si_sa, sa_sa, sa_3, sa_4, sa_5, sa_6, sa_7, sa_8, xk_beg, xn, up_us, up_up, c_9]; done) | (simp [sa_ap, si_ap, si_sa, sa_sa, sa_3, sa_4, sa_5, sa_6, sa_7, sa_8, xk_beg, xn, up_us, up_up, c_9]; done))), rfl, rfl⟩

set_option maxHeartbeats 400000 in
set_option maxRecDepth 100000 in
/-- holds.holds -/
theorem c_X10_holds (l : Launch) (D : va_G) (cy : Nat → ClassId) (A : Nat → Prop) (ad sad : Nat → Nat) (X M : XF) (K : KF) (hst : l.stackTraces = false) : vx_Met l yX10_holds (wsA yX10_holds cX10_holds 1 (some .int)) ({ frames := 6, cells := 1, slots := 6, locals := 82 }) (PcW D cy A ad sad X M K [.ref (ad 0)]) (QiW D cy A ad (fun r X1 M1 K1 => xk_beg (X 118 0) = 0 ∧ r = X 109 0 ∧ X1 = X ∧ M1 = M ∧ K1 = K)) (XcW D cy A ad (fun E X1 M1 K1 => ¬ xk_beg (X 118 0) = 0 ∧ E = xn "java/lang/IllegalStateException" "java/lang/IllegalStateException" "java/lang/IllegalStateException" (xk_beg (X 118 0)) ∧ X1 = X ∧ M1 = M ∧ K1 = K)) 1 6 A := by
  refine vet_ofW [(0, .ref (ad 0))] (by decide +kernel) (Nat.le_of_ble_eq_true rfl) rfl ?_
  intro G C hl hR hL hD hcy hA had hsa hr ht hQ
  subst hD hcy hA had hsa hl
  refine g_aload_n C dX10_holds_0 0 rfl ?_
  refine gf_X10_log C tw332 dX10_holds_1 ?_
  refine gf_X4_state C tw314 dX10_holds_4 ?_
  refine g_bipush C dX10_holds_7 (v := 45) (by decide) ?_
  refine g_icmp_ne C dX10_holds_9 (tgt := 23) (by decide) (fun c_9 => ?_) (fun c_9 => ?_)
  · try simp only [sa_ap, si_ap, reduceIte, Nat.reduceEqDiff, up_us, lg_cmp_lt, lg_cmp_gt, lg_cmp_le, lg_cmp_ge] at c_9
    refine g_aload_n C dX10_holds_23 0 rfl ?_
    refine gf_X10_countdown C tw330 dX10_holds_24 ?_
    refine gf_X1_secondsHeld C tw222 dX10_holds_27 ?_
    refine g_iretWX C hr hQ (by decide) (by decide) dX10_holds_30 ?_
    exact ⟨(by first | with_reducible rfl | (first | with_reducible rfl | (simp only [sa_ap, si_ap, si_sa, sa_sa, sa_3, sa_4, sa_5, sa_6, sa_7, sa_8, xk_beg, xn, up_us, up_up, c_9]; done) | (simp [sa_ap, si_ap, si_sa, sa_sa, sa_3, sa_4, sa_5, sa_6, sa_7, sa_8, xk_beg, xn, up_us, up_up, c_9]; done))), (by first | with_reducible rfl | (first | with_reducible rfl | (simp only [sa_ap, si_ap, si_sa, sa_sa, sa_3, sa_4, sa_5, sa_6, sa_7, sa_8, xk_beg, xn, up_us, up_up, c_9]; done) | (simp [sa_ap, si_ap, si_sa, sa_sa, sa_3, sa_4, sa_5, sa_6, sa_7, sa_8, xk_beg, xn, up_us, up_up, c_9]; done))), (by first | with_reducible rfl | (first | with_reducible rfl | (simp only [sa_ap, si_ap, si_sa, sa_sa, sa_3, sa_4, sa_5, sa_6, sa_7, sa_8, xk_beg, xn, up_us, up_up, c_9]; done) | (simp [sa_ap, si_ap, si_sa, sa_sa, sa_3, sa_4, sa_5, sa_6, sa_7, sa_8, xk_beg, xn, up_us, up_up, c_9]; done))), rfl, rfl⟩
  · try simp only [sa_ap, si_ap, reduceIte, Nat.reduceEqDiff, up_us, lg_cmp_lt, lg_cmp_gt, lg_cmp_le, lg_cmp_ge] at c_9
    refine g_throwW C hst ht hQ th_138 th_ot_138 tw563 tw23 (i := 25) ⟨by decide, rfl⟩ dX10_holds_12 dX10_holds_15 dX10_holds_16 dX10_holds_19 dX10_holds_22 (by rw [hR]; decide) (by rw [hR]; decide) (by decide) ?_
    exact ⟨(by first | with_reducible rfl | (first | with_reducible rfl | (simp only [sa_ap, si_ap, si_sa, sa_sa, sa_3, sa_4, sa_5, sa_6, sa_7, sa_8, xk_beg, xn, up_us, up_up, c_9]; done) | (simp [sa_ap, si_ap, si_sa, sa_sa, sa_3, sa_4, sa_5, sa_6, sa_7, sa_8, xk_beg, xn, up_us, up_up, c_9]; done))), (by first | with_reducible rfl | (first | with_reducible rfl | (simp only [sa_ap, si_ap, si_sa, sa_sa, sa_3, sa_4, sa_5, sa_6, sa_7, sa_8, xk_beg, xn, up_us, up_up, c_9]; done) | (simp [sa_ap, si_ap, si_sa, sa_sa, sa_3, sa_4, sa_5, sa_6, sa_7, sa_8, xk_beg, xn, up_us, up_up, c_9]; done))), (by first | with_reducible rfl | (first | with_reducible rfl | (simp only [sa_ap, si_ap, si_sa, sa_sa, sa_3, sa_4, sa_5, sa_6, sa_7, sa_8, xk_beg, xn, up_us, up_up, c_9]; done) | (simp [sa_ap, si_ap, si_sa, sa_sa, sa_3, sa_4, sa_5, sa_6, sa_7, sa_8, xk_beg, xn, up_us, up_up, c_9]; done))), rfl, rfl⟩

set_option maxHeartbeats 400000 in
set_option maxRecDepth 100000 in
/-- state.state -/
theorem c_X10_state (l : Launch) (D : va_G) (cy : Nat → ClassId) (A : Nat → Prop) (ad sad : Nat → Nat) (X M : XF) (K : KF) (hc : isCh (X 118 0)) : Met l yX10_state (wsA yX10_state cX10_state 1 (some .char)) ({ frames := 0, cells := 0, slots := 0, locals := 0 }) (PcW D cy A ad sad X M K [.ref (ad 0)]) (QiW D cy A ad (fun r X1 M1 K1 => r = X 118 0 ∧ X1 = X ∧ M1 = M ∧ K1 = K)) 0 0 A := by
  refine met_ofW [(0, .ref (ad 0))] (by decide +kernel) (Nat.le_of_ble_eq_true rfl) rfl ?_
  intro G C hl hR hL hD hcy hA had hsa hr hQ
  subst hD hcy hA had hsa hl
  refine g_aload_n C dX10_state_0 0 rfl ?_
  refine gf_X10_log C tw332 dX10_state_1 ?_
  refine gf_X4_state C tw314 dX10_state_4 ?_
  refine g_zretW C hr hc.1 hQ (Nat.le_refl _) (Nat.le_refl _) dX10_state_7 ?_
  exact ⟨(by first | with_reducible rfl | (first | with_reducible rfl | (simp only [sa_ap, si_ap, si_sa, sa_sa, sa_3, sa_4, sa_5, sa_6, sa_7, sa_8, up_us, up_up]; done) | (simp [sa_ap, si_ap, si_sa, sa_sa, sa_3, sa_4, sa_5, sa_6, sa_7, sa_8, up_us, up_up]; done))), (by first | with_reducible rfl | (first | with_reducible rfl | (simp only [sa_ap, si_ap, si_sa, sa_sa, sa_3, sa_4, sa_5, sa_6, sa_7, sa_8, up_us, up_up]; done) | (simp [sa_ap, si_ap, si_sa, sa_sa, sa_3, sa_4, sa_5, sa_6, sa_7, sa_8, up_us, up_up]; done))), rfl, rfl⟩

set_option maxHeartbeats 400000 in
set_option maxRecDepth 100000 in
/-- second.second -/
theorem c_X10_second (l : Launch) (D : va_G) (cy : Nat → ClassId) (A : Nat → Prop) (ad sad : Nat → Nat) (X M : XF) (K : KF) : Met l yX10_second (wsA yX10_second cX10_second 1 (some .int)) ({ frames := 0, cells := 0, slots := 0, locals := 0 }) (PcW D cy A ad sad X M K [.ref (ad 0)]) (QiW D cy A ad (fun r X1 M1 K1 => r = X 101 0 ∧ X1 = X ∧ M1 = M ∧ K1 = K)) 0 0 A := by
  refine met_ofW [(0, .ref (ad 0))] (by decide +kernel) (Nat.le_of_ble_eq_true rfl) rfl ?_
  intro G C hl hR hL hD hcy hA had hsa hr hQ
  subst hD hcy hA had hsa hl
  refine g_aload_n C dX10_second_0 0 rfl ?_
  refine gf_X10_now C tw335 dX10_second_1 ?_
  refine g_iretW C hr hQ (Nat.le_refl _) (Nat.le_refl _) dX10_second_4 ?_
  exact ⟨(by first | with_reducible rfl | (first | with_reducible rfl | (simp only [sa_ap, si_ap, si_sa, sa_sa, sa_3, sa_4, sa_5, sa_6, sa_7, sa_8, up_us, up_up]; done) | (simp [sa_ap, si_ap, si_sa, sa_sa, sa_3, sa_4, sa_5, sa_6, sa_7, sa_8, up_us, up_up]; done))), (by first | with_reducible rfl | (first | with_reducible rfl | (simp only [sa_ap, si_ap, si_sa, sa_sa, sa_3, sa_4, sa_5, sa_6, sa_7, sa_8, up_us, up_up]; done) | (simp [sa_ap, si_ap, si_sa, sa_sa, sa_3, sa_4, sa_5, sa_6, sa_7, sa_8, up_us, up_up]; done))), rfl, rfl⟩

set_option maxHeartbeats 400000 in
set_option maxRecDepth 100000 in
/-- risk.risk -/
theorem c_X10_risk (l : Launch) (D : va_G) (cy : Nat → ClassId) (A : Nat → Prop) (ad sad : Nat → Nat) (X M : XF) (K : KF) : Met l yX10_risk (wsA yX10_risk cX10_risk 1 (some .int)) ({ frames := 1, cells := 0, slots := 0, locals := 22 }) (PcW D cy A ad sad X M K [.ref (ad 0)]) (QiW D cy A ad (fun r X1 M1 K1 => r = bt_sum (X 23) 8 ∧ X1 = X ∧ M1 = M ∧ K1 = K)) 0 0 A := by
  refine met_ofW [(0, .ref (ad 0))] (by decide +kernel) (Nat.le_of_ble_eq_true rfl) rfl ?_
  intro G C hl hR hL hD hcy hA had hsa hr hQ
  subst hD hcy hA had hsa hl
  refine g_aload_n C dX10_risk_0 0 rfl ?_
  refine gf_X10_boats C tw328 dX10_risk_1 ?_
  refine g_callViW C dX10_risk_4 (c_X0_sumOfRisks _ _ _ _ _ _ _ _ _ ) tw695 tw696 tw697 tw7 tw698 (rv_X0 C) rfl ⟨by decide +kernel, by decide +kernel, rfl⟩ ⟨rfl, rfl⟩ (by rw [hR]; decide) (Nat.le_of_ble_eq_true rfl) (by rw [hR]; decide) (fun r_1 X1 M1 K1 h_2 => ?_)
  obtain ⟨er_1, hX1, hM1, hK1⟩ := h_2
  subst X1 M1 K1
  try simp only [sa_ap, si_ap, reduceIte, Nat.reduceEqDiff] at er_1
  refine g_iretW C hr hQ (Nat.le_refl _) (Nat.le_refl _) dX10_risk_7 ?_
  exact ⟨(by first | with_reducible rfl | (subst er_1; first | with_reducible rfl | (simp only [sa_ap, si_ap, si_sa, sa_sa, sa_3, sa_4, sa_5, sa_6, sa_7, sa_8, up_us, up_up]; done) | (simp [sa_ap, si_ap, si_sa, sa_sa, sa_3, sa_4, sa_5, sa_6, sa_7, sa_8, up_us, up_up]; done))), (by first | with_reducible rfl | (subst er_1; first | with_reducible rfl | (simp only [sa_ap, si_ap, si_sa, sa_sa, sa_3, sa_4, sa_5, sa_6, sa_7, sa_8, up_us, up_up]; done) | (simp [sa_ap, si_ap, si_sa, sa_sa, sa_3, sa_4, sa_5, sa_6, sa_7, sa_8, up_us, up_up]; done))), rfl, rfl⟩
