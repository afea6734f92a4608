/-! the constant text of the kinds, as it lies behind everything -/
section
variable {G : MC} {cc : ByteArray} {own : String} {Wp : Heap → Prop} {L : List (Nat × Value)} {k n pc mc ms : Nat} {stk : List Value}
theorem g_kS (C : Cx G cc own) : vk_S 1 [6] [kndB] (fun _ => gsa G 1000) (fun _ => gsa G 1001) (gA G) (gs G) (gs G).heap := C.gl.2.2.2.2.2.2.2.2.2.2.2.2
theorem g_kldc (C : Cx G cc "LaunchRangeModel") (d : decode cc pc = .ok (.ldc 223, 2)) (kk : GH G Wp L k n (pc + 2) (.ref (gsa G 1000) :: stk)) : GH G Wp L k n pc stk := fun H locs ls hl hw hS => va_ldcS C.x C.b C.o C.gl.2.2.2.2.2.2.2.2.2.2.2.1 d (kk H locs ls hl hw hS)
theorem g_kval (C : Cx G cc own) {idx : Nat} (hk : Cond.fieldLink own idx "java/lang/String" "value" "[B" ∈ lw_all) (d : decode cc pc = .ok (.getfield idx, 3)) (kk : GH G Wp L k n (pc + 3) (.ref (gsa G 1001) :: stk)) : GH G Wp L k n pc (.ref (gsa G 1000) :: stk) := fun H locs ls hl hw hS => vk_getf C.x C.b ((g_kS C).1 0 (by decide)).2.2.1 hS C.o (C.ts _ hk) (fun _ h => h) d (kk H locs ls hl hw hS)
theorem g_kcod (C : Cx G cc own) {idx : Nat} (hk : Cond.fieldLink own idx "java/lang/String" "coder" "B" ∈ lw_all) (d : decode cc pc = .ok (.getfield idx, 3)) (kk : GH G Wp L k n (pc + 3) (.int 0 :: stk)) : GH G Wp L k n pc (.ref (gsa G 1000) :: stk) := fun H locs ls hl hw hS => vk_getf C.x C.b ((g_kS C).1 0 (by decide)).2.1 hS C.o (C.ts _ hk) (fun _ h => h) d (kk H locs ls hl hw hS)
theorem g_klen (C : Cx G cc own) (d : decode cc pc = .ok (.arraylength, 1)) (kk : GH G Wp L k n (pc + 1) (.int 6 :: stk)) : GH G Wp L k n pc (.ref (gsa G 1001) :: stk) := fun H locs ls hl hw hS => va_tlen C.x C.b ((g_kS C).1 0 (by decide)).2.2.2 hS rfl d (kk H locs ls hl hw hS)
theorem g_kld (C : Cx G cc own) {i : Nat} (hi : i < 6) (d : decode cc pc = .ok (.baload, 1)) (kk : GH G Wp L k n (pc + 1) (.int (kndB.getD i 0) :: stk)) : GH G Wp L k n pc (.int (nI i) :: .ref (gsa G 1001) :: stk) := fun H locs ls hl hw hS => va_tb C.x C.b ((g_kS C).1 0 (by decide)).2.2.2 hS (vp_in_nI hi (by decide)) (by rw [nI_clamp (by omega)]; rfl) d (kk H locs ls hl hw hS)
end
section
variable {G : MC} {cc : ByteArray} {own : String} {Wp : Heap → Prop} {L : List (Nat × Value)} {k n pc mc ms : Nat} {y : MethodName} {bytes : ByteArray} {maxL idx b : Nat} {ret : Option FieldType} {rm : Room} {As rest st0 : List Value}
theorem g_callK {S : Type} {WQ : S → Heap → Prop} {post : Int32 → S → Prop} (C : Cx G cc own) (hy : y.cls = "java/lang/String") (hM : Met (gl G) y (wsA y bytes maxL ret) rm (PcH (gD G) (gcy G) (gA G) (gsa G) Wp (.ref (gsa G 1000) :: As)) (va_Qi post (fun u t => WQ u t.heap) (gA G)) mc ms (gA G)) (hlk : Cond.methodLink own idx y ∈ lw_all) (hin : Cond.instanceMethod y ∈ lw_all) (hse : Cond.selects y.cls y y ∈ lw_all) (hini : Cond.initialized y.cls ∈ lw_all) (hco : Cond.code y bytes maxL ret ∈ lw_all) (hd : y.cls ≠ "java/lang/invoke/MethodHandle" ∧ y.cls ≠ "java/lang/invoke/VarHandle" ∧ (parseMethodDescriptor y.desc).map (fun d => d.parameters.length) = some As.length) (hrm : rm.cells = mc ∧ rm.slots = ms) (hR : rm.frames + 1 ≤ (gR G).frames ∧ 8 + (maxL + 11) + rm.locals ≤ (gR G).locals) (hst0 : st0 = As.reverse ++ .ref (gsa G 1000) :: rest) (hW : (rest.map fun v => v.category).sum ≤ 8) (d : decode cc pc = .ok (.invokevirtual idx, 3)) (hf : k + mc ≤ (gR G).cells ∧ n + ms ≤ (gR G).slots) (kk : ∀ (r : Int32) (u : S), post r u → GH G (WQ u) L (k + mc) (n + ms) (pc + 3) (.int r :: rest)) : GH G Wp L k n pc st0 := by
  intro H locs ls hl hw hS
  have hrc : ∃ cellB : Cell, H[gsa G 1000]? = some cellB ∧ cellB.vm.isStatics = false ∧ (gs G).vm.findClass y.cls = some cellB.cls := by
    rw [hy]
    exact vk_recv (i := 0) (g_kS C) (by decide) hS
  exact va_calli (va_runV (As := As) (rest := rest) C.fix hM (cwV As.length C.ts (goodV hlk hin hse hini (goodA hco)) rfl hrm.1 hrm.2 ⟨rfl, hd⟩ hR) ⟨PcH.blind, hrc, fun U hU hW => PcH.at C hw hS hU hW⟩ rfl rfl hl.1 hst0 (lv_room hW) d hf) hS (fun q _ h => h) (fun q h => h) (fun r u t H1 locs1 ht hvm hp hB hz hk hS1 => kk r u hp H1 locs1 ls hl (by rw [← ht]; exact hB) hS1)
theorem g_callKiP {pst : Int32 → Prop} (C : Cx G cc own) (hy : y.cls = "java/lang/String") (hM : Met (gl G) y (wsA y bytes maxL ret) rm (PcH (gD G) (gcy G) (gA G) (gsa G) Wp (.ref (gsa G 1000) :: As)) (QiP (gA G) Wp pst) mc ms (gA G)) (hlk : Cond.methodLink own idx y ∈ lw_all) (hin : Cond.instanceMethod y ∈ lw_all) (hse : Cond.selects y.cls y y ∈ lw_all) (hini : Cond.initialized y.cls ∈ lw_all) (hco : Cond.code y bytes maxL ret ∈ lw_all) (hst0 : st0 = As.reverse ++ .ref (gsa G 1000) :: rest) (hd : y.cls ≠ "java/lang/invoke/MethodHandle" ∧ y.cls ≠ "java/lang/invoke/VarHandle" ∧ (parseMethodDescriptor y.desc).map (fun d => d.parameters.length) = some As.length) (hrm : rm.cells = mc ∧ rm.slots = ms) (hR : rm.frames + 1 ≤ (gR G).frames ∧ 8 + (maxL + 11) + rm.locals ≤ (gR G).locals) (hW : (rest.map fun v => v.category).sum ≤ 8) (d : decode cc pc = .ok (.invokevirtual idx, 3)) (hf : k + mc ≤ (gR G).cells ∧ n + ms ≤ (gR G).slots) (kk : ∀ r, pst r → GH G Wp L (k + mc) (n + ms) (pc + 3) (.int r :: rest)) : GH G Wp L k n pc st0 := g_callK (S := Unit) (WQ := fun _ => Wp) (post := fun r _ => pst r) C hy hM hlk hin hse hini hco hd hrm hR hst0 hW d hf (fun r _ h => kk r h)
end

def kx (c : Int32) : Nat → Nat → Int32
  | 0, _ => -1
  | n + 1, i => if kndB.getD i 0 = c then nI i else kx c n (i + 1)
def kz (p : Int32) : Int32 := if inr 0 255 p = 0 then -1 else kx p.toInt8.toInt32 6 0

set_option maxHeartbeats 400000 in
/-- String.coder -/
theorem c_J0_coder_7d493 (l : Launch) (D : va_G) (cy : Nat → ClassId) (A : Nat → Prop) (sad : Nat → Nat) (Wp : Heap → Prop) : Met l yJ0_coder_7d493 (wsA yJ0_coder_7d493 cJ0_coder_7d493 1 (some .byte)) ({ frames := 0, cells := 0, slots := 0, locals := 0 }) (PcH D cy A sad Wp [.ref (sad 1000)]) (QiP A Wp (fun r => r = 0)) 0 0 A := by
  refine met_ofP (fun _ => 0) [(0, .ref (sad 1000))] (by decide +kernel) (Nat.le_of_ble_eq_true rfl) rfl ?_
  intro G C hl hR hL hD hcy hA had hsa hr hQ
  subst hD hcy hA hsa hl
  refine g_compact C tw1526 dJ0_coder_7d493_0 ?_
  refine g_if_eq C dJ0_coder_7d493_3 (tgt := 13) (by decide) (fun c_3 => absurd c_3 (by decide)) (fun c_3 => ?_)
  refine g_aload_n C dJ0_coder_7d493_6 0 rfl ?_
  refine g_kcod C tw1783 dJ0_coder_7d493_7 ?_
  refine g_goto C dJ0_coder_7d493_10 (tgt := 14) (by decide) ?_
  refine g_zretP C hr (by decide) hQ (by decide) (by decide) dJ0_coder_7d493_14 ?_
  rfl

set_option maxHeartbeats 400000 in
/-- String.isLatin1 -/
theorem c_J0_isLatin1_aae02 (l : Launch) (D : va_G) (cy : Nat → ClassId) (A : Nat → Prop) (sad : Nat → Nat) (Wp : Heap → Prop) : Met l yJ0_isLatin1_aae02 (wsA yJ0_isLatin1_aae02 cJ0_isLatin1_aae02 1 (some .boolean)) ({ frames := 0, cells := 0, slots := 0, locals := 0 }) (PcH D cy A sad Wp [.ref (sad 1000)]) (QiP A Wp (fun r => r = 1)) 0 0 A := by
  refine met_ofP (fun _ => 0) [(0, .ref (sad 1000))] (by decide +kernel) (Nat.le_of_ble_eq_true rfl) rfl ?_
  intro G C hl hR hL hD hcy hA had hsa hr hQ
  subst hD hcy hA hsa hl
  refine g_compact C tw1526 dJ0_isLatin1_aae02_0 ?_
  refine g_if_eq C dJ0_isLatin1_aae02_3 (tgt := 17) (by decide) (fun c_3 => absurd c_3 (by decide)) (fun c_3 => ?_)
  refine g_aload_n C dJ0_isLatin1_aae02_6 0 rfl ?_
  refine g_kcod C tw1783 dJ0_isLatin1_aae02_7 ?_
  refine g_if_ne C dJ0_isLatin1_aae02_10 (tgt := 17) (by decide) (fun c_10 => absurd c_10 (by decide)) (fun c_10 => ?_)
  refine g_iconst C dJ0_isLatin1_aae02_13 (v := 1) (by decide) ?_
  refine g_goto C dJ0_isLatin1_aae02_14 (tgt := 18) (by decide) ?_
  refine g_zretP C hr (by decide) hQ (by decide) (by decide) dJ0_isLatin1_aae02_18 ?_
  rfl

set_option maxHeartbeats 400000 in
/-- String.length -/
theorem c_J0_length_8abf5 (l : Launch) (D : va_G) (cy : Nat → ClassId) (A : Nat → Prop) (sad : Nat → Nat) (Wp : Heap → Prop) : Met l yJ0_length_8abf5 (wsA yJ0_length_8abf5 cJ0_length_8abf5 1 (some .int)) ({ frames := 1, cells := 0, slots := 0, locals := 20 }) (PcH D cy A sad Wp [.ref (sad 1000)]) (QiP A Wp (fun r => r = 6)) 0 0 A := by
  refine met_ofP (fun _ => 0) [(0, .ref (sad 1000))] (by decide +kernel) (Nat.le_of_ble_eq_true rfl) rfl ?_
  intro G C hl hR hL hD hcy hA had hsa hr hQ
  subst hD hcy hA hsa hl
  refine g_aload_n C dJ0_length_8abf5_0 0 rfl ?_
  refine g_kval C tw1784 dJ0_length_8abf5_1 ?_
  refine g_klen C dJ0_length_8abf5_4 ?_
  refine g_aload_n C dJ0_length_8abf5_5 0 rfl ?_
  refine g_callKiP C rfl (c_J0_coder_7d493 _ _ _ _ _ _) tw1531 tw1532 tw1533 tw14 tw1534 rfl ⟨by decide +kernel, by decide +kernel, rfl⟩ ⟨rfl, rfl⟩ (by rw [hR]; decide) (Nat.le_of_ble_eq_true rfl) dJ0_length_8abf5_6 (by rw [hR]; decide) (fun r_1 h_2 => ?_)
  refine g_topi (y := 0) h_2 ?_
  refine g_ishr C dJ0_length_8abf5_9 ?_
  refine g_iretP C hr hQ (by decide) (by decide) dJ0_length_8abf5_10 ?_
  rfl

set_option maxHeartbeats 400000 in
/-- StringLatin1.canEncode -/
theorem c_J1_canEncode_9a6ad (l : Launch) (D : va_G) (cy : Nat → ClassId) (A : Nat → Prop) (sad : Nat → Nat) (Wp : Heap → Prop) (p0 : Int32) : Met l yJ1_canEncode_9a6ad (wsA yJ1_canEncode_9a6ad cJ1_canEncode_9a6ad 1 (some .boolean)) ({ frames := 0, cells := 0, slots := 0, locals := 0 }) (PcH D cy A sad Wp [.int p0]) (QiP A Wp (fun r => r = inr 0 255 p0)) 0 0 A := by
  refine met_ofP (fun _ => 0) [(0, .int p0)] (by decide +kernel) (Nat.le_of_ble_eq_true rfl) rfl ?_
  intro G C hl hR hL hD hcy hA had hsa hr hQ
  subst hD hcy hA hsa hl
  refine g_iload_n C dJ1_canEncode_9a6ad_0 0 rfl ?_
  refine g_if_lt C dJ1_canEncode_9a6ad_1 (tgt := 15) (by decide) (fun c_1 => ?_) (fun c_1 => ?_)
  · try simp only [sa_ap, si_ap, reduceIte, Nat.reduceEqDiff, up_us, lg_cmp_lt, lg_cmp_gt, lg_cmp_le, lg_cmp_ge] at c_1
    refine g_iconst C dJ1_canEncode_9a6ad_15 (v := 0) (by decide) ?_
    refine g_zretP C hr (by decide) hQ (by decide) (by decide) dJ1_canEncode_9a6ad_16 ?_
    exact (by first | with_reducible rfl | (first | with_reducible rfl | (simp only [sa_ap, si_ap, si_sa, sa_sa, sa_3, sa_4, sa_5, sa_6, sa_7, sa_8, inr, c_1]; done) | (simp [sa_ap, si_ap, si_sa, sa_sa, sa_3, sa_4, sa_5, sa_6, sa_7, sa_8, inr, c_1]; done)))
  · try simp only [sa_ap, si_ap, reduceIte, Nat.reduceEqDiff, up_us, lg_cmp_lt, lg_cmp_gt, lg_cmp_le, lg_cmp_ge] at c_1
    refine g_iload_n C dJ1_canEncode_9a6ad_4 0 rfl ?_
    refine g_sipush C dJ1_canEncode_9a6ad_5 (v := 255) (by decide) ?_
    refine g_icmp_gt C dJ1_canEncode_9a6ad_8 (tgt := 15) (by decide) (fun c_8 => ?_) (fun c_8 => ?_)
    · try simp only [sa_ap, si_ap, reduceIte, Nat.reduceEqDiff, up_us, lg_cmp_lt, lg_cmp_gt, lg_cmp_le, lg_cmp_ge] at c_8
      refine g_iconst C dJ1_canEncode_9a6ad_15 (v := 0) (by decide) ?_
      refine g_zretP C hr (by decide) hQ (by decide) (by decide) dJ1_canEncode_9a6ad_16 ?_
      exact (by first | with_reducible rfl | (first | with_reducible rfl | (simp only [sa_ap, si_ap, si_sa, sa_sa, sa_3, sa_4, sa_5, sa_6, sa_7, sa_8, inr, c_1, c_8]; done) | (simp [sa_ap, si_ap, si_sa, sa_sa, sa_3, sa_4, sa_5, sa_6, sa_7, sa_8, inr, c_1, c_8]; done)))
    · try simp only [sa_ap, si_ap, reduceIte, Nat.reduceEqDiff, up_us, lg_cmp_lt, lg_cmp_gt, lg_cmp_le, lg_cmp_ge] at c_8
      refine g_iconst C dJ1_canEncode_9a6ad_11 (v := 1) (by decide) ?_
      refine g_goto C dJ1_canEncode_9a6ad_12 (tgt := 16) (by decide) ?_
      refine g_zretP C hr (by decide) hQ (by decide) (by decide) dJ1_canEncode_9a6ad_16 ?_
      exact (by first | with_reducible rfl | (first | with_reducible rfl | (simp only [sa_ap, si_ap, si_sa, sa_sa, sa_3, sa_4, sa_5, sa_6, sa_7, sa_8, inr, c_1, c_8]; done) | (simp [sa_ap, si_ap, si_sa, sa_sa, sa_3, sa_4, sa_5, sa_6, sa_7, sa_8, inr, c_1, c_8]; done)))

set_option maxHeartbeats 400000 in
/-- StringLatin1.indexOfChar -/
theorem c_J1_indexOfChar_4cfef (l : Launch) (D : va_G) (cy : Nat → ClassId) (A : Nat → Prop) (sad : Nat → Nat) (Wp : Heap → Prop) (p1 : Int32) : Met l yJ1_indexOfChar_4cfef (wsA yJ1_indexOfChar_4cfef cJ1_indexOfChar_4cfef 6 (some .int)) ({ frames := 0, cells := 0, slots := 0, locals := 0 }) (PcH D cy A sad Wp [.ref (sad 1001), .int p1, .int 0, .int 6]) (QiP A Wp (fun r => r = kx p1.toInt8.toInt32 6 0)) 0 0 A := by
  refine met_ofP (fun _ => 0) [(0, .ref (sad 1001)), (1, .int p1), (2, .int 0), (3, .int 6)] (by decide +kernel) (Nat.le_of_ble_eq_true rfl) rfl ?_
  intro G C hl hR hL hD hcy hA had hsa hr hQ
  subst hD hcy hA hsa hl
  refine g_iload_n C dJ1_indexOfChar_4cfef_0 1 rfl ?_
  refine g_i2b C dJ1_indexOfChar_4cfef_1 ?_
  refine g_topi rfl ?_
  refine g_istore C dJ1_indexOfChar_4cfef_2 (L' := [(4, .int p1.toInt8.toInt32), (0, .ref (gsa G 1001)), (1, .int p1), (2, .int 0), (3, .int 6)]) rfl (by rw [hL]; decide) ?_
  refine g_iload_n C dJ1_indexOfChar_4cfef_4 3 rfl ?_
  refine g_istore C dJ1_indexOfChar_4cfef_5 (L' := [(5, .int 0), (4, .int p1.toInt8.toInt32), (0, .ref (gsa G 1001)), (1, .int p1), (2, .int 0), (3, .int 6)]) rfl (by rw [hL]; decide) ?_
  have lp7 : ∀ (n i : Nat) (hi : i + n = 6) (hf : kx p1.toInt8.toInt32 6 0 = kx p1.toInt8.toInt32 n i), GH G (Wp) [(0, .ref (gsa G 1001)), (1, .int p1), (2, .int 0), (3, .int 6), (4, .int p1.toInt8.toInt32), (5, .int (nI i))] 0 0 7 [] := by
    intro n
    induction n with
    | zero =>
      intro i hi hf
      obtain rfl : i = 6 := by omega
      refine g_iload C dJ1_indexOfChar_4cfef_7 5 rfl ?_
      refine g_iload_n C dJ1_indexOfChar_4cfef_9 3 rfl ?_
      refine g_icmp_ge C dJ1_indexOfChar_4cfef_10 (tgt := 31) (by decide) (fun c_10 => ?_) (fun c_10 => absurd (nI_le (a := 6) (b := 6) (Nat.le_refl _) (by omega)) c_10)
      refine g_iconst C dJ1_indexOfChar_4cfef_31 (v := (-1)) (by decide) ?_
      refine g_iretP C hr hQ (by decide) (by decide) dJ1_indexOfChar_4cfef_32 ?_
      exact hf.symm
    | succ n ih =>
      intro i hi hf
      refine g_iload C dJ1_indexOfChar_4cfef_7 5 rfl ?_
      refine g_iload_n C dJ1_indexOfChar_4cfef_9 3 rfl ?_
      refine g_icmp_ge C dJ1_indexOfChar_4cfef_10 (tgt := 31) (by decide) (fun c_10 => absurd c_10 (nI_ge (a := i) (b := 6) (by omega) (by omega))) (fun c_10 => ?_)
      refine g_aload_n C dJ1_indexOfChar_4cfef_13 0 rfl ?_
      refine g_iload C dJ1_indexOfChar_4cfef_14 5 rfl ?_
      refine g_kld C (by omega) dJ1_indexOfChar_4cfef_16 ?_
      refine g_iload C dJ1_indexOfChar_4cfef_17 4 rfl ?_
      refine g_icmp_ne C dJ1_indexOfChar_4cfef_19 (tgt := 25) (by decide) (fun c_19 => ?_) (fun c_19 => ?_)
      · try simp only [sa_ap, si_ap, reduceIte, Nat.reduceEqDiff, up_us, lg_cmp_lt, lg_cmp_gt, lg_cmp_le, lg_cmp_ge] at c_19
        refine g_iinc C dJ1_indexOfChar_4cfef_25 5 rfl (v := nI (i + 1)) (nI_1 _) (L' := [(5, .int (nI (i + 1))), (0, .ref (gsa G 1001)), (1, .int p1), (2, .int 0), (3, .int 6), (4, .int p1.toInt8.toInt32)]) rfl (by rw [hL]; decide) ?_
        refine g_goto C dJ1_indexOfChar_4cfef_28 (tgt := 7) (by decide) ?_
        exact g_sub [1, 2, 3, 4, 5, 0] rfl (ih (i + 1) (by omega) (by rw [hf]; exact if_neg c_19))
      · try simp only [sa_ap, si_ap, reduceIte, Nat.reduceEqDiff, up_us, lg_cmp_lt, lg_cmp_gt, lg_cmp_le, lg_cmp_ge] at c_19
        refine g_iload C dJ1_indexOfChar_4cfef_22 5 rfl ?_
        refine g_iretP C hr hQ (by decide) (by decide) dJ1_indexOfChar_4cfef_24 ?_
        exact (hf.trans (if_pos c_19)).symm
  exact g_sub [2, 3, 4, 5, 1, 0] rfl (lp7 (6) 0 (by omega) rfl)

set_option maxHeartbeats 400000 in
/-- StringLatin1.indexOf -/
theorem c_J1_indexOf_4cfef (l : Launch) (D : va_G) (cy : Nat → ClassId) (A : Nat → Prop) (sad : Nat → Nat) (Wp : Heap → Prop) (p1 : Int32) : Met l yJ1_indexOf_4cfef (wsA yJ1_indexOf_4cfef cJ1_indexOf_4cfef 4 (some .int)) ({ frames := 1, cells := 0, slots := 0, locals := 25 }) (PcH D cy A sad Wp [.ref (sad 1001), .int p1, .int 0, .int 6]) (QiP A Wp (fun r => r = kz p1)) 0 0 A := by
  refine met_ofP (fun _ => 0) [(0, .ref (sad 1001)), (1, .int p1), (2, .int 0), (3, .int 6)] (by decide +kernel) (Nat.le_of_ble_eq_true rfl) rfl ?_
  intro G C hl hR hL hD hcy hA had hsa hr hQ
  subst hD hcy hA hsa hl
  refine g_iload_n C dJ1_indexOf_4cfef_0 1 rfl ?_
  refine g_callSiP C (c_J1_canEncode_9a6ad _ _ _ _ _ _ _) tw1538 tw1539 tw28 tw1540 rfl ⟨by decide +kernel, by decide +kernel, rfl⟩ ⟨rfl, rfl⟩ (by rw [hR]; decide) (Nat.le_of_ble_eq_true rfl) dJ1_indexOf_4cfef_1 (by rw [hR]; decide) (fun r_1 h_2 => ?_)
  refine g_if_ne C dJ1_indexOf_4cfef_4 (tgt := 9) (by decide) (fun c_4 => ?_) (fun c_4 => ?_)
  · try simp only [sa_ap, si_ap, reduceIte, Nat.reduceEqDiff, up_us, lg_cmp_lt, lg_cmp_gt, lg_cmp_le, lg_cmp_ge] at c_4
    refine g_iload_n C dJ1_indexOf_4cfef_9 2 rfl ?_
    refine g_iconst C dJ1_indexOf_4cfef_10 (v := 0) (by decide) ?_
    refine g_max C dJ1_indexOf_4cfef_11 tw1541 (Nat.le_of_ble_eq_true rfl) (by rw [hR]; decide) ?_
    refine g_topi (y := tk_max _ _) rfl ?_
    refine g_topi (y := 0) (by decide) ?_
    refine g_istore_n C dJ1_indexOf_4cfef_14 (L' := [(2, .int 0), (0, .ref (gsa G 1001)), (1, .int p1), (3, .int 6)]) rfl (by rw [hL]; decide) ?_
    refine g_iload_n C dJ1_indexOf_4cfef_15 3 rfl ?_
    refine g_aload_n C dJ1_indexOf_4cfef_16 1 rfl ?_
    refine g_klen C dJ1_indexOf_4cfef_17 ?_
    refine g_min C dJ1_indexOf_4cfef_18 tw1542 (Nat.le_of_ble_eq_true rfl) (by rw [hR]; decide) ?_
    refine g_topi (y := tk_min _ _) rfl ?_
    refine g_topi (y := 6) (by decide) ?_
    refine g_istore_n C dJ1_indexOf_4cfef_21 (L' := [(3, .int 6), (2, .int 0), (0, .ref (gsa G 1001)), (1, .int p1)]) rfl (by rw [hL]; decide) ?_
    refine g_iload_n C dJ1_indexOf_4cfef_22 1 rfl ?_
    refine g_iload_n C dJ1_indexOf_4cfef_23 0 rfl ?_
    refine g_icmp_lt C dJ1_indexOf_4cfef_24 (tgt := 29) (by decide) (fun c_24 => ?_) (fun c_24 => absurd (by decide) c_24)
    refine g_aload_n C dJ1_indexOf_4cfef_29 2 rfl ?_
    refine g_iload_n C dJ1_indexOf_4cfef_30 3 rfl ?_
    refine g_iload_n C dJ1_indexOf_4cfef_31 1 rfl ?_
    refine g_iload_n C dJ1_indexOf_4cfef_32 0 rfl ?_
    refine g_callSiP C (c_J1_indexOfChar_4cfef _ _ _ _ _ _ _) tw1543 tw1544 tw28 tw1545 rfl ⟨by decide +kernel, by decide +kernel, rfl⟩ ⟨rfl, rfl⟩ (by rw [hR]; decide) (Nat.le_of_ble_eq_true rfl) dJ1_indexOf_4cfef_33 (by rw [hR]; decide) (fun r_3 h_4 => ?_)
    refine g_iretP C hr hQ (by decide) (by decide) dJ1_indexOf_4cfef_36 ?_
    exact h_4.trans (if_neg (by rw [← h_2]; exact c_4)).symm
  · try simp only [sa_ap, si_ap, reduceIte, Nat.reduceEqDiff, up_us, lg_cmp_lt, lg_cmp_gt, lg_cmp_le, lg_cmp_ge] at c_4
    refine g_iconst C dJ1_indexOf_4cfef_7 (v := (-1)) (by decide) ?_
    refine g_iretP C hr hQ (by decide) (by decide) dJ1_indexOf_4cfef_8 ?_
    exact (if_pos (by rw [← h_2]; exact c_4)).symm

set_option maxHeartbeats 400000 in
/-- String.indexOf -/
theorem c_J0_indexOf_7cf53 (l : Launch) (D : va_G) (cy : Nat → ClassId) (A : Nat → Prop) (sad : Nat → Nat) (Wp : Heap → Prop) (p1 : Int32) : Met l yJ0_indexOf_7cf53 (wsA yJ0_indexOf_7cf53 cJ0_indexOf_7cf53 3 (some .int)) ({ frames := 2, cells := 0, slots := 0, locals := 48 }) (PcH D cy A sad Wp [.ref (sad 1000), .int p1, .int 0]) (QiP A Wp (fun r => r = kz p1)) 0 0 A := by
  refine met_ofP (fun _ => 0) [(0, .ref (sad 1000)), (1, .int p1), (2, .int 0)] (by decide +kernel) (Nat.le_of_ble_eq_true rfl) rfl ?_
  intro G C hl hR hL hD hcy hA had hsa hr hQ
  subst hD hcy hA hsa hl
  refine g_aload_n C dJ0_indexOf_7cf53_0 0 rfl ?_
  refine g_callKiP C rfl (c_J0_isLatin1_aae02 _ _ _ _ _ _) tw1522 tw1523 tw1524 tw14 tw1525 rfl ⟨by decide +kernel, by decide +kernel, rfl⟩ ⟨rfl, rfl⟩ (by rw [hR]; decide) (Nat.le_of_ble_eq_true rfl) dJ0_indexOf_7cf53_1 (by rw [hR]; decide) (fun r_1 h_2 => ?_)
  refine g_topi (y := 1) h_2 ?_
  refine g_if_eq C dJ0_indexOf_7cf53_4 (tgt := 23) (by decide) (fun c_4 => absurd c_4 (by decide)) (fun c_4 => ?_)
  refine g_aload_n C dJ0_indexOf_7cf53_7 0 rfl ?_
  refine g_kval C tw1784 dJ0_indexOf_7cf53_8 ?_
  refine g_iload_n C dJ0_indexOf_7cf53_11 1 rfl ?_
  refine g_iload_n C dJ0_indexOf_7cf53_12 2 rfl ?_
  refine g_aload_n C dJ0_indexOf_7cf53_13 0 rfl ?_
  refine g_callKiP C rfl (c_J0_length_8abf5 _ _ _ _ _ _) tw1527 tw1528 tw1529 tw14 tw1530 rfl ⟨by decide +kernel, by decide +kernel, rfl⟩ ⟨rfl, rfl⟩ (by rw [hR]; decide) (Nat.le_of_ble_eq_true rfl) dJ0_indexOf_7cf53_14 (by rw [hR]; decide) (fun r_3 h_4 => ?_)
  refine g_topi (y := 6) h_4 ?_
  refine g_callSiP C (c_J1_indexOf_4cfef _ _ _ _ _ _ _) tw1535 tw1536 tw28 tw1537 rfl ⟨by decide +kernel, by decide +kernel, rfl⟩ ⟨rfl, rfl⟩ (by rw [hR]; decide) (Nat.le_of_ble_eq_true rfl) dJ0_indexOf_7cf53_17 (by rw [hR]; decide) (fun r_5 h_6 => ?_)
  refine g_goto C dJ0_indexOf_7cf53_20 (tgt := 36) (by decide) ?_
  refine g_iretP C hr hQ (by decide) (by decide) dJ0_indexOf_7cf53_36 ?_
  assumption

set_option maxHeartbeats 400000 in
/-- String.indexOf -/
theorem c_J0_indexOf_0f7a4 (l : Launch) (D : va_G) (cy : Nat → ClassId) (A : Nat → Prop) (sad : Nat → Nat) (Wp : Heap → Prop) (p1 : Int32) : Met l yJ0_indexOf_0f7a4 (wsA yJ0_indexOf_0f7a4 cJ0_indexOf_0f7a4 2 (some .int)) ({ frames := 3, cells := 0, slots := 0, locals := 70 }) (PcH D cy A sad Wp [.ref (sad 1000), .int p1]) (QiP A Wp (fun r => r = kz p1)) 0 0 A := by
  refine met_ofP (fun _ => 0) [(0, .ref (sad 1000)), (1, .int p1)] (by decide +kernel) (Nat.le_of_ble_eq_true rfl) rfl ?_
  intro G C hl hR hL hD hcy hA had hsa hr hQ
  subst hD hcy hA hsa hl
  refine g_aload_n C dJ0_indexOf_0f7a4_0 0 rfl ?_
  refine g_iload_n C dJ0_indexOf_0f7a4_1 1 rfl ?_
  refine g_iconst C dJ0_indexOf_0f7a4_2 (v := 0) (by decide) ?_
  refine g_callKiP C rfl (c_J0_indexOf_7cf53 _ _ _ _ _ _ _) tw1518 tw1519 tw1520 tw14 tw1521 rfl ⟨by decide +kernel, by decide +kernel, rfl⟩ ⟨rfl, rfl⟩ (by rw [hR]; decide) (Nat.le_of_ble_eq_true rfl) dJ0_indexOf_0f7a4_3 (by rw [hR]; decide) (fun r_1 h_2 => ?_)
  refine g_iretP C hr hQ (by decide) (by decide) dJ0_indexOf_0f7a4_6 ?_
  assumption

