/-! the law's own rows: a switch, the script, calls that may throw, what leaves a method, what is caught -/
theorem Cx.gy {G : MC} {cc : ByteArray} {own : String} (C : Cx G cc own) : GlY (gA G) (gsa G) (gs G) (gs G).heap := C.gl.2.2.2.2.2.2.2.2.2.2.2.2.2.2
def bz (x : Int32) : Int32 := if x = 0 then 0 else 1
theorem bz_bo (x : Int32) : isBo (bz x) := by
  unfold bz
  split
  · exact isBo_0
  · exact isBo_1
theorem bz_id {x : Int32} (h : isBo x) : bz x = x := by
  rcases h with rfl | rfl <;> decide
theorem xb_0 {j z : Nat} (h : j < z) (hz : z < 2 ^ 31) : xk_b (nI j) (nI z) = 0 := by
  unfold xk_b bel
  rw [if_neg (nI_pos (by omega)), if_neg (nI_ge h hz), if_neg (by decide)]
section
variable {G : MC} {cc : ByteArray} {own : String} {Wp : Heap → Prop} {L : List (Nat × Value)} {k n pc : Nat} {stk : List Value}
theorem g_tin (C : Cx G cc own) {dflt lo hi : Int} {offs : Array Int} {len : Nat} {x : Int32} {off : Int} {tgt : Nat} (d : decode cc pc = .ok (.tableswitch dflt lo hi offs, len)) (h1 : ¬ x.toInt < lo) (h2 : ¬ hi < x.toInt) (ho : offs[(x.toInt - lo).toNat]? = some off) (ht : (pc : Int) + off = (tgt : Int)) (kk : GH G Wp L k n tgt stk) : GH G Wp L k n pc (.int x :: stk) := fun H locs ls hl hw hS => lv_tableIn C.x C.b d h1 h2 ho ht (kk H locs ls hl hw hS)
theorem g_tout (C : Cx G cc own) {dflt lo hi : Int} {offs : Array Int} {len : Nat} {x : Int32} {tgt : Nat} (d : decode cc pc = .ok (.tableswitch dflt lo hi offs, len)) (h : x.toInt < lo ∨ hi < x.toInt) (ht : (pc : Int) + dflt = (tgt : Int)) (kk : GH G Wp L k n tgt stk) : GH G Wp L k n pc (.int x :: stk) := fun H locs ls hl hw hS => lv_tableOut C.x C.b d h ht (kk H locs ls hl hw hS)
theorem g_slen (C : Cx G cc own) (d : decode cc pc = .ok (.arraylength, 1)) (kk : GH G Wp L k n (pc + 1) (.int (nI (gsa G 901)) :: stk)) : GH G Wp L k n pc (.ref (gsa G 900) :: stk) := fun H locs ls hl hw hS => va_tlen C.x C.b C.gy.2.2 hS rfl d (kk H locs ls hl hw hS)
theorem g_sld (C : Cx G cc own) {i : Nat} (hi : i < gsa G 901) (d : decode cc pc = .ok (.iaload, 1)) (kk : GH G Wp L k n (pc + 1) (.int (scr (gsa G) i) :: stk)) : GH G Wp L k n pc (.int (nI i) :: .ref (gsa G 900) :: stk) := fun H locs ls hl hw hS => va_ti C.x C.b C.gy.2.2 hS (vp_in_nI hi C.gy.2.1) (by rw [nI_clamp (Nat.lt_trans hi C.gy.2.1)]) d (kk H locs ls hl hw hS)
end
section
variable {G : MC} {cc : ByteArray} {own : String} {X M : XF} {K : KF} {L : List (Nat × Value)} {k n pc mc ms : Nat} {stk : List Value}
/-- an exception under way over the frame at pc -/
def GV (G : MC) (Wp : Heap → Prop) (L : List (Nat × Value)) (k n pc : Nat) (rest : List Value) (E : String) : Prop :=
  ∀ (H : Heap) (locs : List Loc) (ls : Array Slot) (ce : Cell) (q : Nat), lv_has ls (gL G) L → Wp H → va_S (gA G) (gs G).heap H locs → H[q]? = some ce → ce.vm = .none → (gs G).vm.findClass E = some ce.cls →
    vx_W (gp G) (gl G) (ge G) (gR G) (gs G) (gm G) (gas G) (gbe G) (gme G) (gc G) H locs k n (gQ G) (F0 (gm G) pc ls rest) q
theorem g_catch {Wp : Heap → Prop} {rest : List Value} (C : Cx G cc own) {name E : String} {hp : Nat} (pre : List ExceptionTableEntry) (x : ExceptionTableEntry) (suf : List ExceptionTableEntry) (hsplit : (gc G).exceptionTable.toList = pre ++ x :: suf) (hpass : ∀ z ∈ pre, z.catchType ≠ 0 ∧ ∃ nm : String, Cond.classLink own z.catchType nm ∈ lw_all ∧ va_Nc E nm (gs G)) (hx : covers x pc = true) (h0 : x.catchType ≠ 0) (hlink : Cond.classLink own x.catchType name ∈ lw_all) (hcast : (E, name) ∈ castL) (hh : x.handlerPc = hp) (kk : ∀ q : Nat, GH G Wp L k n hp [.ref q]) : GV G Wp L k n pc rest E := by
  intro H locs ls ce q hl hw hS hce hcv hcl
  subst hh
  exact vx_catch C.o pre x suf hsplit (fun z hz => Or.inr ⟨(hpass z hz).1, by obtain ⟨nm, h1, h2⟩ := (hpass z hz).2; exact ⟨nm, C.ts _ h1, h2⟩⟩) hx h0 (C.ts _ hlink) (va_Nw.use rfl (C.gl.2.2.2.2.1 _ hcast)) hce hcv hcl (kk q H locs ls hl hw hS)
/-- nothing catches it here: it leaves the method -/
theorem g_leave {Qc : Array Value → State → Outcome → State → Prop} {px : String → XF → XF → KF → Prop} {rest : List Value} {E : String} (C : Cx G cc own) (ht : ∀ x ∈ (gc G).exceptionTable.toList, False) (hQ : gQ G = vx_MQ (gbe G) Qc (XcW (gD G) (gcy G) (gA G) (gad G) px) (gas G) (gs G) mc ms (gA G)) (hk : k ≤ mc) (hn : n ≤ ms) (hp : px E X M K) : GV G (WX G X M K) L k n pc rest E := by
  intro H locs ls ce q hl hw hS hce hcv hcl
  rw [hQ]
  refine vx_out (fun x hx => (ht x hx).elim) C.lk hce hcv hcl (fun t ht hA => ?_) hS.2.2 hk hn
  exact ⟨(X, M, K), trivial, ⟨hp, by rw [ht]; exact hw⟩, by rw [ht]; exact hS.1, fun q h1 h2 => by rw [ht]; exact hS.2.1 q h1 h2⟩
end
section
variable {G : MC} {cc bytes : ByteArray} {own : String} {X M : XF} {K : KF} {L : List (Nat × Value)} {k n pc maxL idx mc ms b : Nat} {ret : Option FieldType} {hh : List (Nat × Nat × Nat × Nat)} {As rest st0 : List Value} {y : MethodName} {rm : Room} {px : String → XF → XF → KF → Prop}
theorem g_tryi {pst : Int32 → XF → XF → KF → Prop} (C : Cx G cc own) (hM : vx_Met (gl G) y (wsA y bytes maxL ret) rm (PcW (gD G) (gcy G) (gA G) (gad G) (gsa G) X M K (.ref b :: As)) (QiW (gD G) (gcy G) (gA G) (gad G) pst) (XcW (gD G) (gcy G) (gA G) (gad G) px) mc ms (gA G)) (hlk : Cond.methodLink own idx y ∈ lw_all) (hin : Cond.instanceMethod y ∈ lw_all) (hse : Cond.selects y.cls y y ∈ lw_all) (hini : Cond.initialized y.cls ∈ lw_all) (hco : Cond.code y bytes maxL ret ∈ lw_all) (hrecv : ∀ H, WX G X M K H → ∃ cellB : Cell, H[b]? = some cellB ∧ cellB.vm.isStatics = false ∧ (gs G).vm.findClass y.cls = some cellB.cls) (hst0 : st0 = As.reverse ++ .ref b :: rest) (hd : y.cls ≠ "java/lang/invoke/MethodHandle" ∧ y.cls ≠ "java/lang/invoke/VarHandle" ∧ (parseMethodDescriptor y.desc).map (fun d => d.parameters.length) = some As.length) (hrm : rm.cells = mc ∧ rm.slots = ms) (hR : rm.frames + 1 ≤ (gR G).frames ∧ 8 + (maxL + 11) + rm.locals ≤ (gR G).locals) (hW : (rest.map fun v => v.category).sum ≤ 8) (d : decode cc pc = .ok (.invokevirtual idx, 3)) (hf : k + mc ≤ (gR G).cells ∧ n + ms ≤ (gR G).slots)
    (kx : ∀ (E : String) (X' M' : XF) (K' : KF), px E X' M' K' → GV G (WX G X' M' K') L (k + mc) (n + ms) pc rest E) (kk : ∀ (r : Int32) (X' M' : XF) (K' : KF), pst r X' M' K' → GH G (WX G X' M' K') L (k + mc) (n + ms) (pc + 3) (.int r :: rest)) : GH G (WX G X M K) L k n pc st0 := by
  intro H locs ls hl hw hS
  exact vx_calli (vx_runV (As := As) (rest := rest) C.fix hM (cwV As.length C.ts (goodV hlk hin hse hini (goodA hco)) rfl hrm.1 hrm.2 ⟨rfl, hd⟩ hR) ⟨PcH.blind, hrecv H hw, fun U hU hW => PcH.at C hw hS hU hW⟩ rfl rfl hl.1 hst0 (lv_room hW) d hf) hS (fun q _ h => h) (fun q h => h) (fun q _ h => h) (fun E ce q9 u t H1 locs1 ht hvm hp hB hz hk hS1 hce hcv hcl => kx E u.1 u.2.1 u.2.2 hB.1 H1 locs1 ls ce q9 hl (by rw [← ht]; exact hB.2) hS1 hce hcv hcl) (fun r u t H1 locs1 ht hvm hp hB hz hk hS1 => kk r u.1 u.2.1 u.2.2 hp H1 locs1 ls hl (by rw [← ht]; exact hB) hS1)
theorem g_tryS {pst : Int32 → XF → XF → KF → Prop} (C : Cx G cc own) (hM : vx_Met (gl G) y (wsA y bytes maxL ret) rm (PcW (gD G) (gcy G) (gA G) (gad G) (gsa G) X M K As) (QiW (gD G) (gcy G) (gA G) (gad G) pst) (XcW (gD G) (gcy G) (gA G) (gad G) px) mc ms (gA G)) (hlk : Cond.methodLink own idx y ∈ lw_all) (hst : Cond.static y ∈ lw_all) (hini : Cond.initialized y.cls ∈ lw_all) (hco : Cond.code y bytes maxL ret ∈ lw_all) (hst0 : st0 = As.reverse ++ rest) (hd : y.cls ≠ "java/lang/invoke/MethodHandle" ∧ y.cls ≠ "java/lang/invoke/VarHandle" ∧ (parseMethodDescriptor y.desc).map (fun d => d.parameters.length) = some As.length) (hrm : rm.cells = mc ∧ rm.slots = ms) (hR : rm.frames + 1 ≤ (gR G).frames ∧ 8 + (maxL + 11) + rm.locals ≤ (gR G).locals) (hW : (rest.map fun v => v.category).sum ≤ 8) (d : decode cc pc = .ok (.invokestatic idx, 3)) (hf : k + mc ≤ (gR G).cells ∧ n + ms ≤ (gR G).slots)
    (kx : ∀ (E : String) (X' M' : XF) (K' : KF), px E X' M' K' → GV G (WX G X' M' K') L (k + mc) (n + ms) pc rest E) (kk : ∀ (r : Int32) (X' M' : XF) (K' : KF), pst r X' M' K' → GH G (WX G X' M' K') L (k + mc) (n + ms) (pc + 3) (.int r :: rest)) : GH G (WX G X M K) L k n pc st0 := by
  intro H locs ls hl hw hS
  exact vx_calli (vx_runS (As := As) (rest := rest) C.fix hM (va_cwS As.length C.ts (goodS hlk hst hini (goodA hco)) rfl hrm.1 hrm.2 hd hR) ⟨PcH.blind, fun U hU hW => PcH.at C hw hS hU hW⟩ rfl rfl hl.1 hst0 (lv_room hW) d hf) hS (fun q _ h => h) (fun q h => h) (fun q _ h => h) (fun E ce q9 u t H1 locs1 ht hvm hp hB hz hk hS1 hce hcv hcl => kx E u.1 u.2.1 u.2.2 hB.1 H1 locs1 ls ce q9 hl (by rw [← ht]; exact hB.2) hS1 hce hcv hcl) (fun r u t H1 locs1 ht hvm hp hB hz hk hS1 => kk r u.1 u.2.1 u.2.2 hp H1 locs1 ls hl (by rw [← ht]; exact hB) hS1)
/-- a static call of a method with handlers -/
theorem g_callH {pst : Int32 → XF → XF → KF → Prop} (C : Cx G cc own) (d : decode cc pc = .ok (.invokestatic idx, 3)) (hM : Met (gl G) y (wsH y bytes maxL ret hh) rm (PcW (gD G) (gcy G) (gA G) (gad G) (gsa G) X M K As) (QiW (gD G) (gcy G) (gA G) (gad G) pst) mc ms (gA G)) (hlk : Cond.methodLink own idx y ∈ lw_all) (hst : Cond.static y ∈ lw_all) (hini : Cond.initialized y.cls ∈ lw_all) (hco : Cond.codeWith y bytes maxL ret hh ∈ lw_all) (hst0 : st0 = As.reverse ++ rest) (hd : y.cls ≠ "java/lang/invoke/MethodHandle" ∧ y.cls ≠ "java/lang/invoke/VarHandle" ∧ (parseMethodDescriptor y.desc).map (fun d => d.parameters.length) = some As.length) (hrm : rm.cells = mc ∧ rm.slots = ms) (hR : rm.frames + 1 ≤ (gR G).frames ∧ 8 + (maxL + 11) + rm.locals ≤ (gR G).locals) (hW : (rest.map fun v => v.category).sum ≤ 8) (hf : k + mc ≤ (gR G).cells ∧ n + ms ≤ (gR G).slots) (kk : ∀ (r : Int32) (X' M' : XF) (K' : KF), pst r X' M' K' → GH G (WX G X' M' K') L (k + mc) (n + ms) (pc + 3) (.int r :: rest)) : GH G (WX G X M K) L k n pc st0 := by
  intro H locs ls hl hw hS
  exact va_calli (vx_runSW (As := As) (rest := rest) C.fix hM (vx_cwSW As.length C.ts (goodS hlk hst hini (goodH hco)) rfl hrm.1 hrm.2 hd hR) ⟨PcH.blind, fun U hU hW => PcH.at C hw hS hU hW⟩ rfl rfl hl.1 hst0 (lv_room hW) d hf) hS (fun q _ h => h) (fun q h => h) (fun r u t H1 locs1 ht hvm hp hB hz hk hS1 => kk r u.1 u.2.1 u.2.2 hp H1 locs1 ls hl (by rw [← ht]; exact hB) hS1)
end
theorem met_ofH {l : Launch} {y : MethodName} {ws ws' : List Cond} {rm : Room} {Pc : Array Value → State → Prop} {Qc : Array Value → State → Outcome → State → Prop} {mc ms : Nat} {free : Addr → Prop} {cc : ByteArray} {maxL : Nat} {ret : Option FieldType} {hh : List (Nat × Nat × Nat × Nat)} (hy : plainName y.cls = true) (hw : ws = Cond.codeWith y cc maxL ret hh :: ws')
    (body : ∀ p e s m args below meth c s₁, BodyLoose p l y (headSpec ws rm) cc maxL ret e s m args below meth c s₁ → c.maxLocals = maxL → Pc args s → W p l e (headSpec ws rm).room s m args below meth c s.heap [] 0 0 (MQ below Qc args s mc ms free) (entryFrame m args maxL)) : Met l y ws rm Pc Qc mc ms free := by
  refine MetFree.of_bodyS (code := cc) (maxLocals := maxL) (ret := ret) hy ?_ ?_
  · intro args s m h hn
    obtain ⟨m9, meth, c, hn9, h1, h2, h3, h4, -, h5, h6, -⟩ := Cond.codeWith_spec (atoms_spec (ws := ws) h _ (by rw [hw]; exact List.mem_cons_self))
    cases hn.symm.trans hn9
    exact ⟨meth, c, h1, h2, h3, h4, h5, h6⟩
  · intro p e s m args below meth c s₁ B hml hP _
    have hh0 : s₁.heap = s.heap := by rw [B.state]; rfl
    obtain ⟨t, a1, o, b1, b2, b3⟩ := body p e s m args below meth c s₁ B hml hP s₁ hh0 (Stand.of_body B)
    exact ⟨t, o, a1, b1, b2, b3⟩
theorem met_ofL {l : Launch} {y : MethodName} {cc : ByteArray} {maxL : Nat} {ret : Option FieldType} {hh : List (Nat × Nat × Nat × Nat)} {rm : Room} {Qc : Array Value → State → Outcome → State → Prop} {mc ms : Nat} {D : va_G} {cy : Nat → ClassId} {A : Nat → Prop} {ad sad : Nat → Nat} {X M : XF} {K : KF} {av : List Value} (L0 : List (Nat × Value)) (hy : plainName y.cls = true) (hlen : (lg_sl av).length ≤ maxL) (hL0 : lv_args 0 av = L0)
    (body : ∀ G : MC, Cx G cc y.cls → gl G = l → gR G = rm → gL G = maxL → gD G = D → gcy G = cy → gA G = A → gad G = ad → gsa G = sad → (gc G).exceptionTable.toList = tableOf hh → (gme G).sig.returnType = ret → gQ G = MQ (gbe G) Qc (gas G) (gs G) mc ms (gA G) → GH G (Wd D cy A ad X M K) L0 0 0 0 []) : Met l y (wsH y cc maxL ret hh) rm (PcW D cy A ad sad X M K av) Qc mc ms A := by
  subst hL0
  refine met_ofH (cc := cc) (maxL := maxL) (ret := ret) hy rfl ?_
  intro p e s m args below meth c s₁ B hml hv
  obtain ⟨rfl, hnew, hK, hG, hW⟩ := hv
  have hts := atoms_spec (ws := wsH y cc maxL ret hh) B.pre
  have C0 : Cx (p, l, e, rm, s, m, av.toArray, below, meth, c, D, cy, A, ad, sad, maxL, MQ below Qc av.toArray s mc ms A) cc y.cls := ⟨B.exec, B.bytes, hml, findClass_of_methodNamed B.named, fun w hw => hts w (List.mem_cons_of_mem _ hw), hK, hG, B.notSynchronized, hnew⟩
  have K := body _ C0 rfl rfl rfl rfl rfl rfl rfl rfl (vx_table (x := y) B (hts _ List.mem_cons_self)) B.returns rfl
  have hl := lv_entry av (n := maxL) hlen
  rw [lg_entry_eq]
  exact K s.heap [] _ hl hW va_S.rf

/-! told, cell, pick -/
def cel1 (sad : Nat → Nat) (i : Nat) : Int32 := 69069 * ((if i < sad 901 then scr sad i else 0) + 1009 * nI i) + 12345
def cel2 (sad : Nat → Nat) (i : Nat) : Int32 := (cel1 sad i ^^^ ush (cel1 sad i) 13) * 1103515245
def cel (sad : Nat → Nat) (i : Nat) : Int32 := cel2 sad i ^^^ ush (cel2 sad i) 16
def pn (sad : Nat → Nat) (i m : Nat) : Nat := (cel sad i).toBitVec.toNat / 256 % m
theorem pn_lt (sad : Nat → Nat) (i : Nat) {m : Nat} (h : 0 < m) : pn sad i m < m := Nat.mod_lt _ h
theorem ush8 (x : Int32) : (x.toUInt32 >>> ((8 : Int32).toUInt32 &&& Int32.toUInt32 31)).toInt32 = nI (x.toBitVec.toNat / 256) := by
  refine Int32.toBitVec_inj.mp (BitVec.eq_of_toNat_eq ?_)
  have h := x.toBitVec.isLt
  rw [pk_ushr x 8 8 (by decide), pk_tn (by omega)]
theorem pn_rem (sad : Nat → Nat) (i : Nat) {m : Nat} (h : 0 < m) (hm : m < 2 ^ 20) : nI ((cel sad i).toBitVec.toNat / 256) - nI ((cel sad i).toBitVec.toNat / 256) / nI m * nI m = nI (pn sad i m) := by
  have h9 := (cel sad i).toBitVec.isLt
  exact pk_rem (by omega) h (by omega)

set_option maxHeartbeats 400000 in
set_option maxRecDepth 100000 in
/-- told.told -/
theorem c_L_told (l : Launch) (D : va_G) (cy : Nat → ClassId) (A : Nat → Prop) (ad sad : Nat → Nat) (X M : XF) (K : KF) (p1 : Int32) : Met l yL_told (wsA yL_told cL_told 1 (some .int)) ({ frames := 0, cells := 0, slots := 0, locals := 0 }) (PcW D cy A ad sad X M K [.int p1]) (QiW D cy A ad (fun r X1 M1 K1 => r = bz p1 ∧ X1 = X ∧ M1 = M ∧ K1 = K)) 0 0 A := by
  refine met_ofW [(0, .int p1)] (by decide +kernel) (Nat.le_of_ble_eq_true rfl) rfl ?_
  intro G C hl hR hL hD hcy hA had hsa hr hQ
  subst hD hcy hA had hsa hl
  refine g_iload_n C dL_told_0 0 rfl ?_
  refine g_if_eq C dL_told_1 (tgt := 8) (by decide) (fun c_1 => ?_) (fun c_1 => ?_)
  · try simp only [sa_ap, si_ap, reduceIte, Nat.reduceEqDiff, up_us, lg_cmp_lt, lg_cmp_gt, lg_cmp_le, lg_cmp_ge] at c_1
    refine g_iconst C dL_told_8 (v := 0) (by decide) ?_
    refine g_iretW C hr hQ (Nat.le_refl _) (Nat.le_refl _) dL_told_9 ?_
    exact ⟨(by first | with_reducible rfl | (first | with_reducible rfl | (simp only [sa_ap, si_ap, si_sa, sa_sa, sa_3, sa_4, sa_5, sa_6, sa_7, sa_8, bz, up_us, up_up, c_1]; done) | (simp [sa_ap, si_ap, si_sa, sa_sa, sa_3, sa_4, sa_5, sa_6, sa_7, sa_8, bz, up_us, up_up, c_1]; done))), (by first | with_reducible rfl | (first | with_reducible rfl | (simp only [sa_ap, si_ap, si_sa, sa_sa, sa_3, sa_4, sa_5, sa_6, sa_7, sa_8, bz, up_us, up_up, c_1]; done) | (simp [sa_ap, si_ap, si_sa, sa_sa, sa_3, sa_4, sa_5, sa_6, sa_7, sa_8, bz, up_us, up_up, c_1]; done))), rfl, rfl⟩
  · try simp only [sa_ap, si_ap, reduceIte, Nat.reduceEqDiff, up_us, lg_cmp_lt, lg_cmp_gt, lg_cmp_le, lg_cmp_ge] at c_1
    refine g_iconst C dL_told_4 (v := 1) (by decide) ?_
    refine g_goto C dL_told_5 (tgt := 9) (by decide) ?_
    refine g_iretW C hr hQ (Nat.le_refl _) (Nat.le_refl _) dL_told_9 ?_
    exact ⟨(by first | with_reducible rfl | (first | with_reducible rfl | (simp only [sa_ap, si_ap, si_sa, sa_sa, sa_3, sa_4, sa_5, sa_6, sa_7, sa_8, bz, up_us, up_up, c_1]; done) | (simp [sa_ap, si_ap, si_sa, sa_sa, sa_3, sa_4, sa_5, sa_6, sa_7, sa_8, bz, up_us, up_up, c_1]; done))), (by first | with_reducible rfl | (first | with_reducible rfl | (simp only [sa_ap, si_ap, si_sa, sa_sa, sa_3, sa_4, sa_5, sa_6, sa_7, sa_8, bz, up_us, up_up, c_1]; done) | (simp [sa_ap, si_ap, si_sa, sa_sa, sa_3, sa_4, sa_5, sa_6, sa_7, sa_8, bz, up_us, up_up, c_1]; done))), rfl, rfl⟩

theorem c_L_told_0 (l : Launch) (D : va_G) (cy : Nat → ClassId) (A : Nat → Prop) (ad sad : Nat → Nat) (X M : XF) (K : KF) : Met l yL_told (wsA yL_told cL_told 1 (some .int)) ({ frames := 0, cells := 0, slots := 0, locals := 0 }) (PcW D cy A ad sad X M K [.int 0]) (QiW D cy A ad (fun r X1 M1 K1 => r = 0 ∧ X1 = X ∧ M1 = M ∧ K1 = K)) 0 0 A := c_L_told l D cy A ad sad X M K 0
theorem c_L_told_1 (l : Launch) (D : va_G) (cy : Nat → ClassId) (A : Nat → Prop) (ad sad : Nat → Nat) (X M : XF) (K : KF) : Met l yL_told (wsA yL_told cL_told 1 (some .int)) ({ frames := 0, cells := 0, slots := 0, locals := 0 }) (PcW D cy A ad sad X M K [.int 1]) (QiW D cy A ad (fun r X1 M1 K1 => r = 1 ∧ X1 = X ∧ M1 = M ∧ K1 = K)) 0 0 A := c_L_told l D cy A ad sad X M K 1
set_option maxHeartbeats 400000 in
set_option maxRecDepth 100000 in
/-- cell.cell -/
theorem c_L_cell (l : Launch) (D : va_G) (cy : Nat → ClassId) (A : Nat → Prop) (ad sad : Nat → Nat) (X M : XF) (K : KF) (i : Nat) (hi : i < 2 ^ 20) : Met l yL_cell (wsA yL_cell cL_cell 3 (some .int)) ({ frames := 0, cells := 0, slots := 0, locals := 0 }) (PcW D cy A ad sad X M K [.ref (sad 900), .int (nI i)]) (QiW D cy A ad (fun r X1 M1 K1 => r = cel sad i ∧ X1 = X ∧ M1 = M ∧ K1 = K)) 0 0 A := by
  refine met_ofW [(0, .ref (sad 900)), (1, .int (nI i))] (by decide +kernel) (Nat.le_of_ble_eq_true rfl) rfl ?_
  intro G C hl hR hL hD hcy hA had hsa hr hQ
  subst hD hcy hA had hsa hl
  have hL9 : gsa G 901 < 2 ^ 31 := C.gy.2.1
  refine g_ldc C dL_cell_0 tw405 ?_
  refine g_iload_n C dL_cell_2 1 rfl ?_
  refine g_aload_n C dL_cell_3 0 rfl ?_
  refine g_slen C dL_cell_4 ?_
  refine g_icmp_ge C dL_cell_5 (tgt := 14) (by decide) (fun c_5 => ?_) (fun c_5 => ?_)
  · try simp only [sa_ap, si_ap, reduceIte, Nat.reduceEqDiff, up_us, lg_cmp_lt, lg_cmp_gt, lg_cmp_le, lg_cmp_ge] at c_5
    have c_ge : ¬ i < gsa G 901 := Nat.not_lt.mpr ((nI_leI hL9 (by omega)).mp c_5)
    refine g_iconst C dL_cell_14 (v := 0) (by decide) ?_
    refine g_sipush C dL_cell_15 (v := 1009) (by decide) ?_
    refine g_iload_n C dL_cell_18 1 rfl ?_
    refine g_imul C dL_cell_19 ?_
    refine g_iadd C dL_cell_20 ?_
    refine g_imul C dL_cell_21 ?_
    refine g_sipush C dL_cell_22 (v := 12345) (by decide) ?_
    refine g_iadd C dL_cell_25 ?_
    refine g_namei (fun v_1 ev_1 => ?_)
    refine g_istore_n C dL_cell_26 (L' := [(2, .int v_1), (0, .ref (gsa G 900)), (1, .int (nI i))]) rfl (by rw [hL]; decide) ?_
    refine g_iload_n C dL_cell_27 0 rfl ?_
    refine g_iload_n C dL_cell_28 0 rfl ?_
    refine g_bipush C dL_cell_29 (v := 13) (by decide) ?_
    refine g_iushr C dL_cell_31 ?_
    refine g_ixor C dL_cell_32 ?_
    refine g_ldc C dL_cell_33 tw406 ?_
    refine g_imul C dL_cell_35 ?_
    refine g_namei (fun v_2 ev_2 => ?_)
    refine g_istore_n C dL_cell_36 (L' := [(2, .int v_2), (0, .ref (gsa G 900)), (1, .int (nI i))]) rfl (by rw [hL]; decide) ?_
    refine g_iload_n C dL_cell_37 0 rfl ?_
    refine g_iload_n C dL_cell_38 0 rfl ?_
    refine g_bipush C dL_cell_39 (v := 16) (by decide) ?_
    refine g_iushr C dL_cell_41 ?_
    refine g_ixor C dL_cell_42 ?_
    refine g_iretW C hr hQ (Nat.le_refl _) (Nat.le_refl _) dL_cell_43 ?_
    exact ⟨(by first | with_reducible rfl | (subst ev_1 ev_2; first | with_reducible rfl | (simp only [sa_ap, si_ap, si_sa, sa_sa, sa_3, sa_4, sa_5, sa_6, sa_7, sa_8, cel, cel1, cel2, ush, up_us, up_up, c_5, c_ge]; done) | (simp [sa_ap, si_ap, si_sa, sa_sa, sa_3, sa_4, sa_5, sa_6, sa_7, sa_8, cel, cel1, cel2, ush, up_us, up_up, c_5, c_ge]; done))), (by first | with_reducible rfl | (subst ev_1 ev_2; first | with_reducible rfl | (simp only [sa_ap, si_ap, si_sa, sa_sa, sa_3, sa_4, sa_5, sa_6, sa_7, sa_8, cel, cel1, cel2, ush, up_us, up_up, c_5, c_ge]; done) | (simp [sa_ap, si_ap, si_sa, sa_sa, sa_3, sa_4, sa_5, sa_6, sa_7, sa_8, cel, cel1, cel2, ush, up_us, up_up, c_5, c_ge]; done))), rfl, rfl⟩
  · try simp only [sa_ap, si_ap, reduceIte, Nat.reduceEqDiff, up_us, lg_cmp_lt, lg_cmp_gt, lg_cmp_le, lg_cmp_ge] at c_5
    have c_lt : i < gsa G 901 := Nat.lt_of_not_le (fun q => c_5 ((nI_leI hL9 (by omega)).mpr q))
    refine g_aload_n C dL_cell_8 0 rfl ?_
    refine g_iload_n C dL_cell_9 1 rfl ?_
    refine g_sld C c_lt dL_cell_10 ?_
    refine g_goto C dL_cell_11 (tgt := 15) (by decide) ?_
    refine g_sipush C dL_cell_15 (v := 1009) (by decide) ?_
    refine g_iload_n C dL_cell_18 1 rfl ?_
    refine g_imul C dL_cell_19 ?_
    refine g_iadd C dL_cell_20 ?_
    refine g_imul C dL_cell_21 ?_
    refine g_sipush C dL_cell_22 (v := 12345) (by decide) ?_
    refine g_iadd C dL_cell_25 ?_
    refine g_namei (fun v_3 ev_3 => ?_)
    refine g_istore_n C dL_cell_26 (L' := [(2, .int v_3), (0, .ref (gsa G 900)), (1, .int (nI i))]) rfl (by rw [hL]; decide) ?_
    refine g_iload_n C dL_cell_27 0 rfl ?_
    refine g_iload_n C dL_cell_28 0 rfl ?_
    refine g_bipush C dL_cell_29 (v := 13) (by decide) ?_
    refine g_iushr C dL_cell_31 ?_
    refine g_ixor C dL_cell_32 ?_
    refine g_ldc C dL_cell_33 tw406 ?_
    refine g_imul C dL_cell_35 ?_
    refine g_namei (fun v_4 ev_4 => ?_)
    refine g_istore_n C dL_cell_36 (L' := [(2, .int v_4), (0, .ref (gsa G 900)), (1, .int (nI i))]) rfl (by rw [hL]; decide) ?_
    refine g_iload_n C dL_cell_37 0 rfl ?_
    refine g_iload_n C dL_cell_38 0 rfl ?_
    refine g_bipush C dL_cell_39 (v := 16) (by decide) ?_
    refine g_iushr C dL_cell_41 ?_
    refine g_ixor C dL_cell_42 ?_
    refine g_iretW C hr hQ (Nat.le_refl _) (Nat.le_refl _) dL_cell_43 ?_
    exact ⟨(by first | with_reducible rfl | (subst ev_3 ev_4; first | with_reducible rfl | (simp only [sa_ap, si_ap, si_sa, sa_sa, sa_3, sa_4, sa_5, sa_6, sa_7, sa_8, cel, cel1, cel2, ush, up_us, up_up, c_5, c_lt]; done) | (simp [sa_ap, si_ap, si_sa, sa_sa, sa_3, sa_4, sa_5, sa_6, sa_7, sa_8, cel, cel1, cel2, ush, up_us, up_up, c_5, c_lt]; done))), (by first | with_reducible rfl | (subst ev_3 ev_4; first | with_reducible rfl | (simp only [sa_ap, si_ap, si_sa, sa_sa, sa_3, sa_4, sa_5, sa_6, sa_7, sa_8, cel, cel1, cel2, ush, up_us, up_up, c_5, c_lt]; done) | (simp [sa_ap, si_ap, si_sa, sa_sa, sa_3, sa_4, sa_5, sa_6, sa_7, sa_8, cel, cel1, cel2, ush, up_us, up_up, c_5, c_lt]; done))), rfl, rfl⟩

set_option maxHeartbeats 400000 in
set_option maxRecDepth 100000 in
/-- pick.pick -/
theorem c_L_pick (l : Launch) (D : va_G) (cy : Nat → ClassId) (A : Nat → Prop) (ad sad : Nat → Nat) (X M : XF) (K : KF) (i : Nat) (hi : i < 2 ^ 20) (m : Nat) (hm : 0 < m) (hm2 : m < 2 ^ 20) : Met l yL_pick (wsA yL_pick cL_pick 3 (some .int)) ({ frames := 1, cells := 0, slots := 0, locals := 22 }) (PcW D cy A ad sad X M K [.ref (sad 900), .int (nI i), .int (nI m)]) (QiW D cy A ad (fun r X1 M1 K1 => r = nI (pn sad i m) ∧ X1 = X ∧ M1 = M ∧ K1 = K)) 0 0 A := by
  refine met_ofW [(0, .ref (sad 900)), (1, .int (nI i)), (2, .int (nI m))] (by decide +kernel) (Nat.le_of_ble_eq_true rfl) rfl ?_
  intro G C hl hR hL hD hcy hA had hsa hr hQ
  subst hD hcy hA had hsa hl
  refine g_aload_n C dL_pick_0 0 rfl ?_
  refine g_iload_n C dL_pick_1 1 rfl ?_
  refine g_callSiW C dL_pick_2 (c_L_cell _ _ _ _ _ _ _ _ _ i hi) tw402 tw403 tw0 tw404 rfl ⟨by decide +kernel, by decide +kernel, rfl⟩ ⟨rfl, rfl⟩ (by rw [hR]; decide) (Nat.le_of_ble_eq_true rfl) (by rw [hR]; decide) (fun r_1 X1 M1 K1 h_2 => ?_)
  obtain ⟨er_1, hX1, hM1, hK1⟩ := h_2
  subst X1 M1 K1
  try simp only [sa_ap, si_ap, reduceIte, Nat.reduceEqDiff] at er_1
  refine g_bipush C dL_pick_5 (v := 8) (by decide) ?_
  refine g_iushr C dL_pick_7 ?_
  subst er_1
  refine g_topi (ush8 _) ?_
  refine g_iload_n C dL_pick_8 2 rfl ?_
  refine g_irem C dL_pick_9 (nI_ne0 hm (by omega)) ?_
  refine g_topi (pn_rem _ _ hm hm2) ?_
  refine g_iretW C hr hQ (Nat.le_refl _) (Nat.le_refl _) dL_pick_10 ?_
  exact ⟨rfl, rfl, rfl, rfl⟩

set_option maxHeartbeats 400000 in
set_option maxRecDepth 100000 in
/-- asked.asked -/
theorem c_L_asked_20 (l : Launch) (D : va_G) (cy : Nat → ClassId) (A : Nat → Prop) (ad sad : Nat → Nat) (X M : XF) (K : KF) (j : Nat) (hj : j < 3) : Met l yL_asked (wsA yL_asked cL_asked 3 (some .int)) ({ frames := 2, cells := 0, slots := 0, locals := 42 }) (PcW D cy A ad sad X M K [.ref (ad 0), .int 20, .int (nI j)]) (QiW D cy A ad (fun r X1 M1 K1 => r = X 5 j ∧ X1 = X ∧ M1 = M ∧ K1 = K)) 0 0 A := by
  refine met_ofW [(0, .ref (ad 0)), (1, .int 20), (2, .int (nI j))] (by decide +kernel) (Nat.le_of_ble_eq_true rfl) rfl ?_
  intro G C hl hR hL hD hcy hA had hsa hr hQ
  subst hD hcy hA had hsa hl
  refine g_iload_n C dL_asked_0 1 rfl ?_
  refine g_tin C dL_asked_1 (by decide) (by decide) (off := 51) (by decide) (tgt := 52) (by decide) ?_
  refine g_aload_n C dL_asked_52 0 rfl ?_
  refine g_iload_n C dL_asked_53 2 rfl ?_
  refine g_callViW C dL_asked_54 (n_X10_inTank _ _ _ _ _ _ _ _ _ (nI j) (xb_0 hj (by decide))) tw1025 tw1026 tw1027 tw1 tw1028 (rv_X10 C) rfl ⟨by decide +kernel, by decide +kernel, rfl⟩ ⟨rfl, rfl⟩ (by rw [hR]; decide) (Nat.le_of_ble_eq_true rfl) (by rw [hR]; decide) (fun r_1 X1 M1 K1 h_2 => ?_)
  obtain ⟨er_1, hX1, hM1, hK1⟩ := h_2
  simp only [nI_clamp (show j < 2 ^ 31 by omega)] at er_1
  subst X1 M1 K1
  try simp only [sa_ap, si_ap, reduceIte, Nat.reduceEqDiff] at er_1
  refine g_iretW C hr hQ (Nat.le_refl _) (Nat.le_refl _) dL_asked_57 ?_
  exact ⟨(by first | with_reducible rfl | (subst er_1; first | with_reducible rfl | (simp only [sa_ap, si_ap, si_sa, sa_sa, sa_3, sa_4, sa_5, sa_6, sa_7, sa_8, up_us, up_up]; done) | (simp [sa_ap, si_ap, si_sa, sa_sa, sa_3, sa_4, sa_5, sa_6, sa_7, sa_8, up_us, up_up]; done))), (by first | with_reducible rfl | (subst er_1; first | with_reducible rfl | (simp only [sa_ap, si_ap, si_sa, sa_sa, sa_3, sa_4, sa_5, sa_6, sa_7, sa_8, up_us, up_up]; done) | (simp [sa_ap, si_ap, si_sa, sa_sa, sa_3, sa_4, sa_5, sa_6, sa_7, sa_8, up_us, up_up]; done))), rfl, rfl⟩

set_option maxHeartbeats 400000 in
set_option maxRecDepth 100000 in
/-- asked.asked -/
theorem c_L_asked_21 (l : Launch) (D : va_G) (cy : Nat → ClassId) (A : Nat → Prop) (ad sad : Nat → Nat) (X M : XF) (K : KF) (j : Nat) (z : Nat) (hz : X 102 0 = nI z) (hzl : z ≤ 16) (hj : j < z) (hc : ∀ i : Nat, isCh (X 12 i)) : Met l yL_asked (wsA yL_asked cL_asked 3 (some .int)) ({ frames := 2, cells := 0, slots := 0, locals := 42 }) (PcW D cy A ad sad X M K [.ref (ad 0), .int 21, .int (nI j)]) (QiW D cy A ad (fun r X1 M1 K1 => r = X 12 j ∧ X1 = X ∧ M1 = M ∧ K1 = K)) 0 0 A := by
  refine met_ofW [(0, .ref (ad 0)), (1, .int 21), (2, .int (nI j))] (by decide +kernel) (Nat.le_of_ble_eq_true rfl) rfl ?_
  intro G C hl hR hL hD hcy hA had hsa hr hQ
  subst hD hcy hA had hsa hl
  refine g_iload_n C dL_asked_0 1 rfl ?_
  refine g_tin C dL_asked_1 (by decide) (by decide) (off := 57) (by decide) (tgt := 58) (by decide) ?_
  refine g_aload_n C dL_asked_58 0 rfl ?_
  refine g_iload_n C dL_asked_59 2 rfl ?_
  refine g_callViW C dL_asked_60 (n_X10_stepState _ _ _ _ _ _ _ _ _ (nI j) z hz hzl hc (xb_0 hj (by omega))) tw1029 tw1030 tw1031 tw1 tw1032 (rv_X10 C) rfl ⟨by decide +kernel, by decide +kernel, rfl⟩ ⟨rfl, rfl⟩ (by rw [hR]; decide) (Nat.le_of_ble_eq_true rfl) (by rw [hR]; decide) (fun r_1 X1 M1 K1 h_2 => ?_)
  obtain ⟨er_1, hX1, hM1, hK1⟩ := h_2
  simp only [nI_clamp (show j < 2 ^ 31 by omega)] at er_1
  subst X1 M1 K1
  try simp only [sa_ap, si_ap, reduceIte, Nat.reduceEqDiff] at er_1
  refine g_iretW C hr hQ (Nat.le_refl _) (Nat.le_refl _) dL_asked_63 ?_
  exact ⟨(by first | with_reducible rfl | (subst er_1; first | with_reducible rfl | (simp only [sa_ap, si_ap, si_sa, sa_sa, sa_3, sa_4, sa_5, sa_6, sa_7, sa_8, up_us, up_up]; done) | (simp [sa_ap, si_ap, si_sa, sa_sa, sa_3, sa_4, sa_5, sa_6, sa_7, sa_8, up_us, up_up]; done))), (by first | with_reducible rfl | (subst er_1; first | with_reducible rfl | (simp only [sa_ap, si_ap, si_sa, sa_sa, sa_3, sa_4, sa_5, sa_6, sa_7, sa_8, up_us, up_up]; done) | (simp [sa_ap, si_ap, si_sa, sa_sa, sa_3, sa_4, sa_5, sa_6, sa_7, sa_8, up_us, up_up]; done))), rfl, rfl⟩

set_option maxHeartbeats 400000 in
set_option maxRecDepth 100000 in
/-- asked.asked -/
theorem c_L_asked_22 (l : Launch) (D : va_G) (cy : Nat → ClassId) (A : Nat → Prop) (ad sad : Nat → Nat) (X M : XF) (K : KF) (j : Nat) (z : Nat) (hz : X 105 0 = nI z) (hzl : z ≤ 12) (hj : j < z) (ho : ∀ j : Nat, j < z → okAb (X 25 j) (X 26 j)) : Met l yL_asked (wsA yL_asked cL_asked 3 (some .int)) ({ frames := 4, cells := 0, slots := 0, locals := 93 }) (PcW D cy A ad sad X M K [.ref (ad 0), .int 22, .int (nI j)]) (QiW D cy A ad (fun r X1 M1 K1 => r = cl_val X j ∧ X1 = X ∧ M1 = M ∧ K1 = K)) 0 0 A := by
  refine met_ofW [(0, .ref (ad 0)), (1, .int 22), (2, .int (nI j))] (by decide +kernel) (Nat.le_of_ble_eq_true rfl) rfl ?_
  intro G C hl hR hL hD hcy hA had hsa hr hQ
  subst hD hcy hA had hsa hl
  refine g_iload_n C dL_asked_0 1 rfl ?_
  refine g_tin C dL_asked_1 (by decide) (by decide) (off := 63) (by decide) (tgt := 64) (by decide) ?_
  refine g_aload_n C dL_asked_64 0 rfl ?_
  refine g_iload_n C dL_asked_65 2 rfl ?_
  refine g_callViW C dL_asked_66 (n_X10_value _ _ _ _ _ _ _ _ _ (nI j) z hz hzl ho (xb_0 hj (by omega))) tw1033 tw1034 tw1035 tw1 tw1036 (rv_X10 C) rfl ⟨by decide +kernel, by decide +kernel, rfl⟩ ⟨rfl, rfl⟩ (by rw [hR]; decide) (Nat.le_of_ble_eq_true rfl) (by rw [hR]; decide) (fun r_1 X1 M1 K1 h_2 => ?_)
  obtain ⟨er_1, hX1, hM1, hK1⟩ := h_2
  simp only [nI_clamp (show j < 2 ^ 31 by omega)] at er_1
  subst X1 M1 K1
  try simp only [sa_ap, si_ap, reduceIte, Nat.reduceEqDiff] at er_1
  refine g_iretW C hr hQ (Nat.le_refl _) (Nat.le_refl _) dL_asked_69 ?_
  exact ⟨(by first | with_reducible rfl | (subst er_1; first | with_reducible rfl | (simp only [sa_ap, si_ap, si_sa, sa_sa, sa_3, sa_4, sa_5, sa_6, sa_7, sa_8, up_us, up_up]; done) | (simp [sa_ap, si_ap, si_sa, sa_sa, sa_3, sa_4, sa_5, sa_6, sa_7, sa_8, up_us, up_up]; done))), (by first | with_reducible rfl | (subst er_1; first | with_reducible rfl | (simp only [sa_ap, si_ap, si_sa, sa_sa, sa_3, sa_4, sa_5, sa_6, sa_7, sa_8, up_us, up_up]; done) | (simp [sa_ap, si_ap, si_sa, sa_sa, sa_3, sa_4, sa_5, sa_6, sa_7, sa_8, up_us, up_up]; done))), rfl, rfl⟩

set_option maxHeartbeats 400000 in
set_option maxRecDepth 100000 in
/-- asked.asked -/
theorem c_L_asked_23 (l : Launch) (D : va_G) (cy : Nat → ClassId) (A : Nat → Prop) (ad sad : Nat → Nat) (X M : XF) (K : KF) (j : Nat) (z : Nat) (hz : X 105 0 = nI z) (hzl : z ≤ 12) (hj : j < z) : Met l yL_asked (wsA yL_asked cL_asked 3 (some .int)) ({ frames := 2, cells := 0, slots := 0, locals := 42 }) (PcW D cy A ad sad X M K [.ref (ad 0), .int 23, .int (nI j)]) (QiW D cy A ad (fun r X1 M1 K1 => r = X 31 j ∧ X1 = X ∧ M1 = M ∧ K1 = K)) 0 0 A := by
  refine met_ofW [(0, .ref (ad 0)), (1, .int 23), (2, .int (nI j))] (by decide +kernel) (Nat.le_of_ble_eq_true rfl) rfl ?_
  intro G C hl hR hL hD hcy hA had hsa hr hQ
  subst hD hcy hA had hsa hl
  refine g_iload_n C dL_asked_0 1 rfl ?_
  refine g_tin C dL_asked_1 (by decide) (by decide) (off := 69) (by decide) (tgt := 70) (by decide) ?_
  refine g_aload_n C dL_asked_70 0 rfl ?_
  refine g_iload_n C dL_asked_71 2 rfl ?_
  refine g_callViW C dL_asked_72 (n_X10_holdsFor _ _ _ _ _ _ _ _ _ (nI j) z hz hzl (xb_0 hj (by omega))) tw1037 tw1038 tw1039 tw1 tw1040 (rv_X10 C) rfl ⟨by decide +kernel, by decide +kernel, rfl⟩ ⟨rfl, rfl⟩ (by rw [hR]; decide) (Nat.le_of_ble_eq_true rfl) (by rw [hR]; decide) (fun r_1 X1 M1 K1 h_2 => ?_)
  obtain ⟨er_1, hX1, hM1, hK1⟩ := h_2
  simp only [nI_clamp (show j < 2 ^ 31 by omega)] at er_1
  subst X1 M1 K1
  try simp only [sa_ap, si_ap, reduceIte, Nat.reduceEqDiff] at er_1
  refine g_iretW C hr hQ (Nat.le_refl _) (Nat.le_refl _) dL_asked_75 ?_
  exact ⟨(by first | with_reducible rfl | (subst er_1; first | with_reducible rfl | (simp only [sa_ap, si_ap, si_sa, sa_sa, sa_3, sa_4, sa_5, sa_6, sa_7, sa_8, up_us, up_up]; done) | (simp [sa_ap, si_ap, si_sa, sa_sa, sa_3, sa_4, sa_5, sa_6, sa_7, sa_8, up_us, up_up]; done))), (by first | with_reducible rfl | (subst er_1; first | with_reducible rfl | (simp only [sa_ap, si_ap, si_sa, sa_sa, sa_3, sa_4, sa_5, sa_6, sa_7, sa_8, up_us, up_up]; done) | (simp [sa_ap, si_ap, si_sa, sa_sa, sa_3, sa_4, sa_5, sa_6, sa_7, sa_8, up_us, up_up]; done))), rfl, rfl⟩

set_option maxHeartbeats 400000 in
set_option maxRecDepth 100000 in
/-- asked.asked -/
theorem c_L_asked_25 (l : Launch) (D : va_G) (cy : Nat → ClassId) (A : Nat → Prop) (ad sad : Nat → Nat) (X M : XF) (K : KF) (hx : xk_beg (X 118 0) = 0) (q1 : Int32) : Met l yL_asked (wsA yL_asked cL_asked 3 (some .int)) ({ frames := 1, cells := 0, slots := 0, locals := 20 }) (PcW D cy A ad sad X M K [.ref (ad 0), .int 25, .int q1]) (QiW D cy A ad (fun r X1 M1 K1 => r = X 106 0 ∧ X1 = X ∧ M1 = M ∧ K1 = K)) 0 0 A := by
  refine met_ofW [(0, .ref (ad 0)), (1, .int 25), (2, .int q1)] (by decide +kernel) (Nat.le_of_ble_eq_true rfl) rfl ?_
  intro G C hl hR hL hD hcy hA had hsa hr hQ
  subst hD hcy hA had hsa hl
  refine g_iload_n C dL_asked_0 1 rfl ?_
  refine g_tin C dL_asked_1 (by decide) (by decide) (off := 84) (by decide) (tgt := 85) (by decide) ?_
  refine g_aload_n C dL_asked_85 0 rfl ?_
  refine g_callViW C dL_asked_86 (n_X10_count _ _ _ _ _ _ _ _ _ hx) tw1050 tw1051 tw1052 tw1 tw1053 (rv_X10 C) rfl ⟨by decide +kernel, by decide +kernel, rfl⟩ ⟨rfl, rfl⟩ (by rw [hR]; decide) (Nat.le_of_ble_eq_true rfl) (by rw [hR]; decide) (fun r_1 X1 M1 K1 h_2 => ?_)
  obtain ⟨er_1, hX1, hM1, hK1⟩ := h_2
  subst X1 M1 K1
  try simp only [sa_ap, si_ap, reduceIte, Nat.reduceEqDiff] at er_1
  refine g_iretW C hr hQ (Nat.le_refl _) (Nat.le_refl _) dL_asked_89 ?_
  exact ⟨(by first | with_reducible rfl | (subst er_1; first | with_reducible rfl | (simp only [sa_ap, si_ap, si_sa, sa_sa, sa_3, sa_4, sa_5, sa_6, sa_7, sa_8, up_us, up_up]; done) | (simp [sa_ap, si_ap, si_sa, sa_sa, sa_3, sa_4, sa_5, sa_6, sa_7, sa_8, up_us, up_up]; done))), (by first | with_reducible rfl | (subst er_1; first | with_reducible rfl | (simp only [sa_ap, si_ap, si_sa, sa_sa, sa_3, sa_4, sa_5, sa_6, sa_7, sa_8, up_us, up_up]; done) | (simp [sa_ap, si_ap, si_sa, sa_sa, sa_3, sa_4, sa_5, sa_6, sa_7, sa_8, up_us, up_up]; done))), rfl, rfl⟩

set_option maxHeartbeats 400000 in
set_option maxRecDepth 100000 in
/-- asked.asked -/
theorem c_L_asked_26 (l : Launch) (D : va_G) (cy : Nat → ClassId) (A : Nat → Prop) (ad sad : Nat → Nat) (X M : XF) (K : KF) (hx : xk_beg (X 118 0) = 0) (q1 : Int32) : Met l yL_asked (wsA yL_asked cL_asked 3 (some .int)) ({ frames := 1, cells := 0, slots := 0, locals := 20 }) (PcW D cy A ad sad X M K [.ref (ad 0), .int 26, .int q1]) (QiW D cy A ad (fun r X1 M1 K1 => r = X 109 0 ∧ X1 = X ∧ M1 = M ∧ K1 = K)) 0 0 A := by
  refine met_ofW [(0, .ref (ad 0)), (1, .int 26), (2, .int q1)] (by decide +kernel) (Nat.le_of_ble_eq_true rfl) rfl ?_
  intro G C hl hR hL hD hcy hA had hsa hr hQ
  subst hD hcy hA had hsa hl
  refine g_iload_n C dL_asked_0 1 rfl ?_
  refine g_tin C dL_asked_1 (by decide) (by decide) (off := 89) (by decide) (tgt := 90) (by decide) ?_
  refine g_aload_n C dL_asked_90 0 rfl ?_
  refine g_callViW C dL_asked_91 (n_X10_holds _ _ _ _ _ _ _ _ _ hx) tw1055 tw1056 tw1057 tw1 tw1058 (rv_X10 C) rfl ⟨by decide +kernel, by decide +kernel, rfl⟩ ⟨rfl, rfl⟩ (by rw [hR]; decide) (Nat.le_of_ble_eq_true rfl) (by rw [hR]; decide) (fun r_1 X1 M1 K1 h_2 => ?_)
  obtain ⟨er_1, hX1, hM1, hK1⟩ := h_2
  subst X1 M1 K1
  try simp only [sa_ap, si_ap, reduceIte, Nat.reduceEqDiff] at er_1
  refine g_iretW C hr hQ (Nat.le_refl _) (Nat.le_refl _) dL_asked_94 ?_
  exact ⟨(by first | with_reducible rfl | (subst er_1; first | with_reducible rfl | (simp only [sa_ap, si_ap, si_sa, sa_sa, sa_3, sa_4, sa_5, sa_6, sa_7, sa_8, up_us, up_up]; done) | (simp [sa_ap, si_ap, si_sa, sa_sa, sa_3, sa_4, sa_5, sa_6, sa_7, sa_8, up_us, up_up]; done))), (by first | with_reducible rfl | (subst er_1; first | with_reducible rfl | (simp only [sa_ap, si_ap, si_sa, sa_sa, sa_3, sa_4, sa_5, sa_6, sa_7, sa_8, up_us, up_up]; done) | (simp [sa_ap, si_ap, si_sa, sa_sa, sa_3, sa_4, sa_5, sa_6, sa_7, sa_8, up_us, up_up]; done))), rfl, rfl⟩

set_option maxHeartbeats 400000 in
set_option maxRecDepth 100000 in
/-- asked.asked -/
theorem c_L_asked_27 (l : Launch) (D : va_G) (cy : Nat → ClassId) (A : Nat → Prop) (ad sad : Nat → Nat) (X M : XF) (K : KF) (hc : isCh (X 111 0)) (hx : xk_cau (X 118 0) = 0) (q1 : Int32) : Met l yL_asked (wsA yL_asked cL_asked 3 (some .int)) ({ frames := 2, cells := 0, slots := 0, locals := 40 }) (PcW D cy A ad sad X M K [.ref (ad 0), .int 27, .int q1]) (QiW D cy A ad (fun r X1 M1 K1 => r = X 111 0 ∧ X1 = X ∧ M1 = M ∧ K1 = K)) 0 0 A := by
  refine met_ofW [(0, .ref (ad 0)), (1, .int 27), (2, .int q1)] (by decide +kernel) (Nat.le_of_ble_eq_true rfl) rfl ?_
  intro G C hl hR hL hD hcy hA had hsa hr hQ
  subst hD hcy hA had hsa hl
  refine g_iload_n C dL_asked_0 1 rfl ?_
  refine g_tin C dL_asked_1 (by decide) (by decide) (off := 94) (by decide) (tgt := 95) (by decide) ?_
  refine g_aload_n C dL_asked_95 0 rfl ?_
  refine g_callViW C dL_asked_96 (n_X10_cause _ _ _ _ _ _ _ _ _ hc hx) tw1059 tw1060 tw1061 tw1 tw1062 (rv_X10 C) rfl ⟨by decide +kernel, by decide +kernel, rfl⟩ ⟨rfl, rfl⟩ (by rw [hR]; decide) (Nat.le_of_ble_eq_true rfl) (by rw [hR]; decide) (fun r_1 X1 M1 K1 h_2 => ?_)
  obtain ⟨er_1, hX1, hM1, hK1⟩ := h_2
  subst X1 M1 K1
  try simp only [sa_ap, si_ap, reduceIte, Nat.reduceEqDiff] at er_1
  refine g_iretW C hr hQ (Nat.le_refl _) (Nat.le_refl _) dL_asked_99 ?_
  exact ⟨(by first | with_reducible rfl | (subst er_1; first | with_reducible rfl | (simp only [sa_ap, si_ap, si_sa, sa_sa, sa_3, sa_4, sa_5, sa_6, sa_7, sa_8, up_us, up_up]; done) | (simp [sa_ap, si_ap, si_sa, sa_sa, sa_3, sa_4, sa_5, sa_6, sa_7, sa_8, up_us, up_up]; done))), (by first | with_reducible rfl | (subst er_1; first | with_reducible rfl | (simp only [sa_ap, si_ap, si_sa, sa_sa, sa_3, sa_4, sa_5, sa_6, sa_7, sa_8, up_us, up_up]; done) | (simp [sa_ap, si_ap, si_sa, sa_sa, sa_3, sa_4, sa_5, sa_6, sa_7, sa_8, up_us, up_up]; done))), rfl, rfl⟩

set_option maxHeartbeats 400000 in
set_option maxRecDepth 100000 in
/-- asked.asked -/
theorem c_L_asked_29 (l : Launch) (D : va_G) (cy : Nat → ClassId) (A : Nat → Prop) (ad sad : Nat → Nat) (X M : XF) (K : KF) (j : Nat) (hj : j < (K.2.2.1 0).length) (hcap : K.2.1 0 < 2 ^ 26) (hlen : (K.2.2.1 0).length < 2 ^ 26) (hch : ∀ j : Nat, (K.2.2.1 0).getD j 0 < 128) : Met l yL_asked (wsA yL_asked cL_asked 3 (some .int)) ({ frames := 5, cells := 0, slots := 0, locals := 109 }) (PcW D cy A ad sad X M K [.ref (ad 0), .int 29, .int (nI j)]) (QiW D cy A ad (fun r X1 M1 K1 => r = nI ((K.2.2.1 0).getD j 0) ∧ X1 = X ∧ M1 = M ∧ K1 = K)) 0 0 A := by
  refine met_ofW [(0, .ref (ad 0)), (1, .int 29), (2, .int (nI j))] (by decide +kernel) (Nat.le_of_ble_eq_true rfl) rfl ?_
  intro G C hl hR hL hD hcy hA had hsa hr hQ
  subst hD hcy hA had hsa hl
  refine g_iload_n C dL_asked_0 1 rfl ?_
  refine g_tout C dL_asked_1 (by decide) (tgt := 105) (by decide) ?_
  refine g_aload_n C dL_asked_105 0 rfl ?_
  refine g_iload_n C dL_asked_106 2 rfl ?_
  refine g_callViW C dL_asked_107 (n_X10_logAt _ _ _ _ _ _ _ _ _ (nI j) hcap hlen hch (xb_0 hj (by omega))) tw1088 tw1089 tw1090 tw1 tw1091 (rv_X10 C) rfl ⟨by decide +kernel, by decide +kernel, rfl⟩ ⟨rfl, rfl⟩ (by rw [hR]; decide) (Nat.le_of_ble_eq_true rfl) (by rw [hR]; decide) (fun r_1 X1 M1 K1 h_2 => ?_)
  obtain ⟨er_1, hX1, hM1, hK1⟩ := h_2
  simp only [nI_clamp (show j < 2 ^ 31 by omega)] at er_1
  subst X1 M1 K1
  try simp only [sa_ap, si_ap, reduceIte, Nat.reduceEqDiff] at er_1
  refine g_iretW C hr hQ (Nat.le_refl _) (Nat.le_refl _) dL_asked_110 ?_
  exact ⟨(by first | with_reducible rfl | (subst er_1; first | with_reducible rfl | (simp only [sa_ap, si_ap, si_sa, sa_sa, sa_3, sa_4, sa_5, sa_6, sa_7, sa_8, up_us, up_up]; done) | (simp [sa_ap, si_ap, si_sa, sa_sa, sa_3, sa_4, sa_5, sa_6, sa_7, sa_8, up_us, up_up]; done))), (by first | with_reducible rfl | (subst er_1; first | with_reducible rfl | (simp only [sa_ap, si_ap, si_sa, sa_sa, sa_3, sa_4, sa_5, sa_6, sa_7, sa_8, up_us, up_up]; done) | (simp [sa_ap, si_ap, si_sa, sa_sa, sa_3, sa_4, sa_5, sa_6, sa_7, sa_8, up_us, up_up]; done))), rfl, rfl⟩

set_option maxHeartbeats 400000 in
set_option maxRecDepth 100000 in
/-- done.done -/
theorem c_L_done_0 (l : Launch) (D : va_G) (cy : Nat → ClassId) (A : Nat → Prop) (ad sad : Nat → Nat) (X M : XF) (K : KF) (j : Nat) (hj : j < 3) (p2 p3 p4 : Int32) (hx : xk_tank (nI j) p2 p3 p4 = 0) (q5 : Int32) : Met l yL_done (wsA yL_done cL_done 7 (some .int)) ({ frames := 3, cells := 0, slots := 0, locals := 69 }) (PcW D cy A ad sad X M K [.ref (ad 0), .int 0, .int (nI j), .int p2, .int p3, .int p4, .int q5]) (QiW D cy A ad (fun r X1 M1 K1 => r = tk_min (X 5 j) p2 ∧ X1 = sa (sa (sa (sa X 2 (upd (X 2) j p2)) 3 (upd (X 3) j p3)) 4 (upd (X 4) j p4)) 5 (upd (X 5) j (tk_min (X 5 j) p2)) ∧ M1 = M ∧ K1 = K)) 0 0 A := by
  refine met_ofW [(0, .ref (ad 0)), (1, .int 0), (2, .int (nI j)), (3, .int p2), (4, .int p3), (5, .int p4), (6, .int q5)] (by decide +kernel) (Nat.le_of_ble_eq_true rfl) rfl ?_
  intro G C hl hR hL hD hcy hA had hsa hr hQ
  subst hD hcy hA had hsa hl
  refine g_iload_n C dL_done_0 1 rfl ?_
  refine g_tin C dL_done_1 (by decide) (by decide) (off := 87) (by decide) (tgt := 88) (by decide) ?_
  refine g_aload_n C dL_done_88 0 rfl ?_
  refine g_iload_n C dL_done_89 2 rfl ?_
  refine g_iload_n C dL_done_90 3 rfl ?_
  refine g_iload C dL_done_91 4 rfl ?_
  refine g_iload C dL_done_93 5 rfl ?_
  refine g_callViW C dL_done_95 (n_X10_setTank _ _ _ _ _ _ _ _ _ (nI j) p2 p3 p4 hx) tw495 tw496 tw497 tw1 tw498 (rv_X10 C) rfl ⟨by decide +kernel, by decide +kernel, rfl⟩ ⟨rfl, rfl⟩ (by rw [hR]; decide) (Nat.le_of_ble_eq_true rfl) (by rw [hR]; decide) (fun r_1 X1 M1 K1 h_2 => ?_)
  obtain ⟨er_1, hX1, hM1, hK1⟩ := h_2
  simp only [nI_clamp (show j < 2 ^ 31 by omega)] at er_1 hX1
  subst X1 M1 K1
  try simp only [sa_ap, si_ap, reduceIte, Nat.reduceEqDiff] at er_1
  refine g_iretW C hr hQ (Nat.le_refl _) (Nat.le_refl _) dL_done_98 ?_
  exact ⟨(by first | with_reducible rfl | (subst er_1; first | with_reducible rfl | (simp only [sa_ap, si_ap, si_sa, sa_sa, sa_3, sa_4, sa_5, sa_6, sa_7, sa_8, up_us, up_up]; done) | (simp [sa_ap, si_ap, si_sa, sa_sa, sa_3, sa_4, sa_5, sa_6, sa_7, sa_8, up_us, up_up]; done))), (by first | with_reducible rfl | (subst er_1; first | with_reducible rfl | (simp only [sa_ap, si_ap, si_sa, sa_sa, sa_3, sa_4, sa_5, sa_6, sa_7, sa_8, up_us, up_up]; done) | (simp [sa_ap, si_ap, si_sa, sa_sa, sa_3, sa_4, sa_5, sa_6, sa_7, sa_8, up_us, up_up]; done))), rfl, rfl⟩

set_option maxHeartbeats 400000 in
set_option maxRecDepth 100000 in
/-- done.done -/
theorem c_L_done_1_0 (l : Launch) (D : va_G) (cy : Nat → ClassId) (A : Nat → Prop) (ad sad : Nat → Nat) (X M : XF) (K : KF) (j : Nat) (hj : j < 3) (hb : ∀ i : Nat, isBo (X 6 i)) (q3 q4 q5 : Int32) : Met l yL_done (wsA yL_done cL_done 7 (some .int)) ({ frames := 2, cells := 0, slots := 0, locals := 44 }) (PcW D cy A ad sad X M K [.ref (ad 0), .int 1, .int (nI j), .int 0, .int q3, .int q4, .int q5]) (QiW D cy A ad (fun r X1 M1 K1 => r = bz (X 6 j) ∧ X1 = sa X 6 (upd (X 6) j 0) ∧ M1 = M ∧ K1 = K)) 0 0 A := by
  refine met_ofW [(0, .ref (ad 0)), (1, .int 1), (2, .int (nI j)), (3, .int 0), (4, .int q3), (5, .int q4), (6, .int q5)] (by decide +kernel) (Nat.le_of_ble_eq_true rfl) rfl ?_
  intro G C hl hR hL hD hcy hA had hsa hr hQ
  subst hD hcy hA had hsa hl
  refine g_iload_n C dL_done_0 1 rfl ?_
  refine g_tin C dL_done_1 (by decide) (by decide) (off := 98) (by decide) (tgt := 99) (by decide) ?_
  refine g_aload_n C dL_done_99 0 rfl ?_
  refine g_iload_n C dL_done_100 2 rfl ?_
  refine g_iload_n C dL_done_101 3 rfl ?_
  refine g_iconst C dL_done_102 (v := 1) (by decide) ?_
  refine g_icmp_ne C dL_done_103 (tgt := 110) (by decide) (fun c_103 => ?_) (fun c_103 => absurd c_103 (by decide))
  refine g_iconst C dL_done_110 (v := 0) (by decide) ?_
  refine g_callViW C dL_done_111 (n_X10_setValve _ _ _ _ _ _ _ _ _ (nI j) 0 isBo_0 hb (xb_0 hj (by decide))) tw529 tw530 tw531 tw1 tw532 (rv_X10 C) rfl ⟨by decide +kernel, by decide +kernel, rfl⟩ ⟨rfl, rfl⟩ (by rw [hR]; decide) (Nat.le_of_ble_eq_true rfl) (by rw [hR]; decide) (fun r_1 X1 M1 K1 h_2 => ?_)
  obtain ⟨er_1, hX1, hM1, hK1⟩ := h_2
  simp only [nI_clamp (show j < 2 ^ 31 by omega)] at er_1 hX1
  subst X1 M1 K1
  try simp only [sa_ap, si_ap, reduceIte, Nat.reduceEqDiff] at er_1
  refine g_callSiW C dL_done_114 (c_L_told _ _ _ _ _ _ _ _ _ _) tw534 tw535 tw0 tw536 rfl ⟨by decide +kernel, by decide +kernel, rfl⟩ ⟨rfl, rfl⟩ (by rw [hR]; decide) (Nat.le_of_ble_eq_true rfl) (by rw [hR]; decide) (fun r_3 X1 M1 K1 h_4 => ?_)
  obtain ⟨er_3, hX1, hM1, hK1⟩ := h_4
  subst X1 M1 K1
  try simp only [sa_ap, si_ap, reduceIte, Nat.reduceEqDiff] at er_3
  refine g_iretW C hr hQ (Nat.le_refl _) (Nat.le_refl _) dL_done_117 ?_
  exact ⟨(by first | with_reducible rfl | (subst er_1 er_3; first | with_reducible rfl | (simp only [sa_ap, si_ap, si_sa, sa_sa, sa_3, sa_4, sa_5, sa_6, sa_7, sa_8, up_us, up_up]; done) | (simp [sa_ap, si_ap, si_sa, sa_sa, sa_3, sa_4, sa_5, sa_6, sa_7, sa_8, up_us, up_up]; done))), (by first | with_reducible rfl | (subst er_1 er_3; first | with_reducible rfl | (simp only [sa_ap, si_ap, si_sa, sa_sa, sa_3, sa_4, sa_5, sa_6, sa_7, sa_8, up_us, up_up]; done) | (simp [sa_ap, si_ap, si_sa, sa_sa, sa_3, sa_4, sa_5, sa_6, sa_7, sa_8, up_us, up_up]; done))), rfl, rfl⟩

set_option maxHeartbeats 400000 in
set_option maxRecDepth 100000 in
/-- done.done -/
theorem c_L_done_1_1 (l : Launch) (D : va_G) (cy : Nat → ClassId) (A : Nat → Prop) (ad sad : Nat → Nat) (X M : XF) (K : KF) (j : Nat) (hj : j < 3) (hb : ∀ i : Nat, isBo (X 6 i)) (q3 q4 q5 : Int32) : Met l yL_done (wsA yL_done cL_done 7 (some .int)) ({ frames := 2, cells := 0, slots := 0, locals := 44 }) (PcW D cy A ad sad X M K [.ref (ad 0), .int 1, .int (nI j), .int 1, .int q3, .int q4, .int q5]) (QiW D cy A ad (fun r X1 M1 K1 => r = bz (X 6 j) ∧ X1 = sa X 6 (upd (X 6) j 1) ∧ M1 = M ∧ K1 = K)) 0 0 A := by
  refine met_ofW [(0, .ref (ad 0)), (1, .int 1), (2, .int (nI j)), (3, .int 1), (4, .int q3), (5, .int q4), (6, .int q5)] (by decide +kernel) (Nat.le_of_ble_eq_true rfl) rfl ?_
  intro G C hl hR hL hD hcy hA had hsa hr hQ
  subst hD hcy hA had hsa hl
  refine g_iload_n C dL_done_0 1 rfl ?_
  refine g_tin C dL_done_1 (by decide) (by decide) (off := 98) (by decide) (tgt := 99) (by decide) ?_
  refine g_aload_n C dL_done_99 0 rfl ?_
  refine g_iload_n C dL_done_100 2 rfl ?_
  refine g_iload_n C dL_done_101 3 rfl ?_
  refine g_iconst C dL_done_102 (v := 1) (by decide) ?_
  refine g_icmp_ne C dL_done_103 (tgt := 110) (by decide) (fun c_103 => absurd c_103 (by decide)) (fun c_103 => ?_)
  refine g_iconst C dL_done_106 (v := 1) (by decide) ?_
  refine g_goto C dL_done_107 (tgt := 111) (by decide) ?_
  refine g_callViW C dL_done_111 (n_X10_setValve _ _ _ _ _ _ _ _ _ (nI j) 1 isBo_1 hb (xb_0 hj (by decide))) tw529 tw530 tw531 tw1 tw532 (rv_X10 C) rfl ⟨by decide +kernel, by decide +kernel, rfl⟩ ⟨rfl, rfl⟩ (by rw [hR]; decide) (Nat.le_of_ble_eq_true rfl) (by rw [hR]; decide) (fun r_1 X1 M1 K1 h_2 => ?_)
  obtain ⟨er_1, hX1, hM1, hK1⟩ := h_2
  simp only [nI_clamp (show j < 2 ^ 31 by omega)] at er_1 hX1
  subst X1 M1 K1
  try simp only [sa_ap, si_ap, reduceIte, Nat.reduceEqDiff] at er_1
  refine g_callSiW C dL_done_114 (c_L_told _ _ _ _ _ _ _ _ _ _) tw534 tw535 tw0 tw536 rfl ⟨by decide +kernel, by decide +kernel, rfl⟩ ⟨rfl, rfl⟩ (by rw [hR]; decide) (Nat.le_of_ble_eq_true rfl) (by rw [hR]; decide) (fun r_3 X1 M1 K1 h_4 => ?_)
  obtain ⟨er_3, hX1, hM1, hK1⟩ := h_4
  subst X1 M1 K1
  try simp only [sa_ap, si_ap, reduceIte, Nat.reduceEqDiff] at er_3
  refine g_iretW C hr hQ (Nat.le_refl _) (Nat.le_refl _) dL_done_117 ?_
  exact ⟨(by first | with_reducible rfl | (subst er_1 er_3; first | with_reducible rfl | (simp only [sa_ap, si_ap, si_sa, sa_sa, sa_3, sa_4, sa_5, sa_6, sa_7, sa_8, up_us, up_up]; done) | (simp [sa_ap, si_ap, si_sa, sa_sa, sa_3, sa_4, sa_5, sa_6, sa_7, sa_8, up_us, up_up]; done))), (by first | with_reducible rfl | (subst er_1 er_3; first | with_reducible rfl | (simp only [sa_ap, si_ap, si_sa, sa_sa, sa_3, sa_4, sa_5, sa_6, sa_7, sa_8, up_us, up_up]; done) | (simp [sa_ap, si_ap, si_sa, sa_sa, sa_3, sa_4, sa_5, sa_6, sa_7, sa_8, up_us, up_up]; done))), rfl, rfl⟩

set_option maxHeartbeats 400000 in
set_option maxRecDepth 100000 in
/-- done.done -/
theorem c_L_done_2 (l : Launch) (D : va_G) (cy : Nat → ClassId) (A : Nat → Prop) (ad sad : Nat → Nat) (X M : XF) (K : KF) (j : Nat) (hj : j < 3) (p2 : Int32) (hx : xk_drain (nI j) p2 = 0) (q3 q4 q5 : Int32) : Met l yL_done (wsA yL_done cL_done 7 (some .int)) ({ frames := 3, cells := 0, slots := 0, locals := 66 }) (PcW D cy A ad sad X M K [.ref (ad 0), .int 2, .int (nI j), .int p2, .int q3, .int q4, .int q5]) (QiW D cy A ad (fun r X1 M1 K1 => r = tk_min (X 5 j) p2 ∧ X1 = sa X 5 (upd (X 5) j (X 5 j - tk_min (X 5 j) p2)) ∧ M1 = M ∧ K1 = K)) 0 0 A := by
  refine met_ofW [(0, .ref (ad 0)), (1, .int 2), (2, .int (nI j)), (3, .int p2), (4, .int q3), (5, .int q4), (6, .int q5)] (by decide +kernel) (Nat.le_of_ble_eq_true rfl) rfl ?_
  intro G C hl hR hL hD hcy hA had hsa hr hQ
  subst hD hcy hA had hsa hl
  refine g_iload_n C dL_done_0 1 rfl ?_
  refine g_tin C dL_done_1 (by decide) (by decide) (off := 117) (by decide) (tgt := 118) (by decide) ?_
  refine g_aload_n C dL_done_118 0 rfl ?_
  refine g_iload_n C dL_done_119 2 rfl ?_
  refine g_iload_n C dL_done_120 3 rfl ?_
  refine g_callViW C dL_done_121 (n_X10_drain _ _ _ _ _ _ _ _ _ (nI j) p2 hx) tw537 tw538 tw539 tw1 tw540 (rv_X10 C) rfl ⟨by decide +kernel, by decide +kernel, rfl⟩ ⟨rfl, rfl⟩ (by rw [hR]; decide) (Nat.le_of_ble_eq_true rfl) (by rw [hR]; decide) (fun r_1 X1 M1 K1 h_2 => ?_)
  obtain ⟨er_1, hX1, hM1, hK1⟩ := h_2
  simp only [nI_clamp (show j < 2 ^ 31 by omega)] at er_1 hX1
  subst X1 M1 K1
  try simp only [sa_ap, si_ap, reduceIte, Nat.reduceEqDiff] at er_1
  refine g_iretW C hr hQ (Nat.le_refl _) (Nat.le_refl _) dL_done_124 ?_
  exact ⟨(by first | with_reducible rfl | (subst er_1; first | with_reducible rfl | (simp only [sa_ap, si_ap, si_sa, sa_sa, sa_3, sa_4, sa_5, sa_6, sa_7, sa_8, up_us, up_up]; done) | (simp [sa_ap, si_ap, si_sa, sa_sa, sa_3, sa_4, sa_5, sa_6, sa_7, sa_8, up_us, up_up]; done))), (by first | with_reducible rfl | (subst er_1; first | with_reducible rfl | (simp only [sa_ap, si_ap, si_sa, sa_sa, sa_3, sa_4, sa_5, sa_6, sa_7, sa_8, up_us, up_up]; done) | (simp [sa_ap, si_ap, si_sa, sa_sa, sa_3, sa_4, sa_5, sa_6, sa_7, sa_8, up_us, up_up]; done))), rfl, rfl⟩

set_option maxHeartbeats 400000 in
set_option maxRecDepth 100000 in
/-- done.done -/
theorem c_L_done_3 (l : Launch) (D : va_G) (cy : Nat → ClassId) (A : Nat → Prop) (ad sad : Nat → Nat) (X M : XF) (K : KF) (p1 p2 : Int32) (z : Nat) (hz : X 102 0 = nI z) (hzl : z ≤ 16) (hx : xk_step (nI z) (X 118 0) p1 p2 = 0) (q3 q4 q5 : Int32) : Met l yL_done (wsA yL_done cL_done 7 (some .int)) ({ frames := 3, cells := 0, slots := 0, locals := 62 }) (PcW D cy A ad sad X M K [.ref (ad 0), .int 3, .int p1, .int p2, .int q3, .int q4, .int q5]) (QiW D cy A ad (fun r X1 M1 K1 => r = nI z ∧ X1 = si (sa (sa (sa X 8 (upd (X 8) z p1)) 9 (upd (X 9) z p2)) 12 (upd (X 12) z 45)) 102 (nI z + 1) ∧ M1 = M ∧ K1 = K)) 0 0 A := by
  refine met_ofW [(0, .ref (ad 0)), (1, .int 3), (2, .int p1), (3, .int p2), (4, .int q3), (5, .int q4), (6, .int q5)] (by decide +kernel) (Nat.le_of_ble_eq_true rfl) rfl ?_
  intro G C hl hR hL hD hcy hA had hsa hr hQ
  subst hD hcy hA had hsa hl
  refine g_iload_n C dL_done_0 1 rfl ?_
  refine g_tin C dL_done_1 (by decide) (by decide) (off := 124) (by decide) (tgt := 125) (by decide) ?_
  refine g_aload_n C dL_done_125 0 rfl ?_
  refine g_iload_n C dL_done_126 2 rfl ?_
  refine g_iload_n C dL_done_127 3 rfl ?_
  refine g_callViW C dL_done_128 (n_X10_addStep _ _ _ _ _ _ _ _ _ p1 p2 z hz hzl hx) tw546 tw547 tw548 tw1 tw549 (rv_X10 C) rfl ⟨by decide +kernel, by decide +kernel, rfl⟩ ⟨rfl, rfl⟩ (by rw [hR]; decide) (Nat.le_of_ble_eq_true rfl) (by rw [hR]; decide) (fun r_1 X1 M1 K1 h_2 => ?_)
  obtain ⟨er_1, hX1, hM1, hK1⟩ := h_2
  subst X1 M1 K1
  try simp only [sa_ap, si_ap, reduceIte, Nat.reduceEqDiff] at er_1
  refine g_iretW C hr hQ (Nat.le_refl _) (Nat.le_refl _) dL_done_131 ?_
  exact ⟨(by first | with_reducible rfl | (subst er_1; first | with_reducible rfl | (simp only [sa_ap, si_ap, si_sa, sa_sa, sa_3, sa_4, sa_5, sa_6, sa_7, sa_8, up_us, up_up]; done) | (simp [sa_ap, si_ap, si_sa, sa_sa, sa_3, sa_4, sa_5, sa_6, sa_7, sa_8, up_us, up_up]; done))), (by first | with_reducible rfl | (subst er_1; first | with_reducible rfl | (simp only [sa_ap, si_ap, si_sa, sa_sa, sa_3, sa_4, sa_5, sa_6, sa_7, sa_8, up_us, up_up]; done) | (simp [sa_ap, si_ap, si_sa, sa_sa, sa_3, sa_4, sa_5, sa_6, sa_7, sa_8, up_us, up_up]; done))), rfl, rfl⟩

set_option maxHeartbeats 400000 in
set_option maxRecDepth 100000 in
/-- done.done -/
theorem c_L_done_4 (l : Launch) (D : va_G) (cy : Nat → ClassId) (A : Nat → Prop) (ad sad : Nat → Nat) (X M : XF) (K : KF) (j : Nat) (hj : j < 16) (p2 : Int32) (z : Nat) (hz : X 102 0 = nI z) (hzl : z ≤ 16) (hx : xk_after (nI z) (X 118 0) (nI j) p2 = 0) (q3 q4 q5 : Int32) : Met l yL_done (wsA yL_done cL_done 7 (some .int)) ({ frames := 3, cells := 0, slots := 0, locals := 64 }) (PcW D cy A ad sad X M K [.ref (ad 0), .int 4, .int (nI j), .int p2, .int q3, .int q4, .int q5]) (QiW D cy A ad (fun r X1 M1 K1 => r = bcnt (X 11 j ||| (1 <<< (p2 &&& 31))) ∧ X1 = sa X 11 (upd (X 11) j (X 11 j ||| (1 <<< (p2 &&& 31)))) ∧ M1 = M ∧ K1 = K)) 0 0 A := by
  refine met_ofW [(0, .ref (ad 0)), (1, .int 4), (2, .int (nI j)), (3, .int p2), (4, .int q3), (5, .int q4), (6, .int q5)] (by decide +kernel) (Nat.le_of_ble_eq_true rfl) rfl ?_
  intro G C hl hR hL hD hcy hA had hsa hr hQ
  subst hD hcy hA had hsa hl
  refine g_iload_n C dL_done_0 1 rfl ?_
  refine g_tin C dL_done_1 (by decide) (by decide) (off := 131) (by decide) (tgt := 132) (by decide) ?_
  refine g_aload_n C dL_done_132 0 rfl ?_
  refine g_iload_n C dL_done_133 2 rfl ?_
  refine g_iload_n C dL_done_134 3 rfl ?_
  refine g_callViW C dL_done_135 (n_X10_setAfter _ _ _ _ _ _ _ _ _ (nI j) p2 z hz hzl hx) tw583 tw584 tw585 tw1 tw586 (rv_X10 C) rfl ⟨by decide +kernel, by decide +kernel, rfl⟩ ⟨rfl, rfl⟩ (by rw [hR]; decide) (Nat.le_of_ble_eq_true rfl) (by rw [hR]; decide) (fun r_1 X1 M1 K1 h_2 => ?_)
  obtain ⟨er_1, hX1, hM1, hK1⟩ := h_2
  simp only [nI_clamp (show j < 2 ^ 31 by omega)] at er_1 hX1
  subst X1 M1 K1
  try simp only [sa_ap, si_ap, reduceIte, Nat.reduceEqDiff] at er_1
  refine g_iretW C hr hQ (Nat.le_refl _) (Nat.le_refl _) dL_done_138 ?_
  exact ⟨(by first | with_reducible rfl | (subst er_1; first | with_reducible rfl | (simp only [sa_ap, si_ap, si_sa, sa_sa, sa_3, sa_4, sa_5, sa_6, sa_7, sa_8, up_us, up_up]; done) | (simp [sa_ap, si_ap, si_sa, sa_sa, sa_3, sa_4, sa_5, sa_6, sa_7, sa_8, up_us, up_up]; done))), (by first | with_reducible rfl | (subst er_1; first | with_reducible rfl | (simp only [sa_ap, si_ap, si_sa, sa_sa, sa_3, sa_4, sa_5, sa_6, sa_7, sa_8, up_us, up_up]; done) | (simp [sa_ap, si_ap, si_sa, sa_sa, sa_3, sa_4, sa_5, sa_6, sa_7, sa_8, up_us, up_up]; done))), rfl, rfl⟩

set_option maxHeartbeats 400000 in
set_option maxRecDepth 100000 in
/-- done.done -/
theorem c_L_done_6 (l : Launch) (D : va_G) (cy : Nat → ClassId) (A : Nat → Prop) (ad sad : Nat → Nat) (X M : XF) (K : KF) (j : Nat) (hj : j < 9) (p2 : Int32) (hx : xk_sense (nI j) p2 = 0) (q3 q4 q5 : Int32) : Met l yL_done (wsA yL_done cL_done 7 (some .int)) ({ frames := 3, cells := 0, slots := 0, locals := 71 }) (PcW D cy A ad sad X M K [.ref (ad 0), .int 6, .int (nI j), .int p2, .int q3, .int q4, .int q5]) (QiW D cy A ad (fun r X1 M1 K1 => r = sn_tell (X 19) (upd (X 18) j p2) (j / 3) ∧ X1 = sa X 18 (upd (X 18) j p2) ∧ M1 = M ∧ K1 = K)) 0 0 A := by
  refine met_ofW [(0, .ref (ad 0)), (1, .int 6), (2, .int (nI j)), (3, .int p2), (4, .int q3), (5, .int q4), (6, .int q5)] (by decide +kernel) (Nat.le_of_ble_eq_true rfl) rfl ?_
  intro G C hl hR hL hD hcy hA had hsa hr hQ
  subst hD hcy hA had hsa hl
  refine g_iload_n C dL_done_0 1 rfl ?_
  refine g_tin C dL_done_1 (by decide) (by decide) (off := 147) (by decide) (tgt := 148) (by decide) ?_
  refine g_aload_n C dL_done_148 0 rfl ?_
  refine g_iload_n C dL_done_149 2 rfl ?_
  refine g_iload_n C dL_done_150 3 rfl ?_
  refine g_callViW C dL_done_151 (n_X10_sense _ _ _ _ _ _ _ _ _ (nI j) p2 hx) tw645 tw646 tw647 tw1 tw648 (rv_X10 C) rfl ⟨by decide +kernel, by decide +kernel, rfl⟩ ⟨rfl, rfl⟩ (by rw [hR]; decide) (Nat.le_of_ble_eq_true rfl) (by rw [hR]; decide) (fun r_1 X1 M1 K1 h_2 => ?_)
  obtain ⟨er_1, hX1, hM1, hK1⟩ := h_2
  simp only [nI_clamp (show j < 2 ^ 31 by omega)] at er_1 hX1
  subst X1 M1 K1
  try simp only [sa_ap, si_ap, reduceIte, Nat.reduceEqDiff] at er_1
  refine g_iretW C hr hQ (Nat.le_refl _) (Nat.le_refl _) dL_done_154 ?_
  exact ⟨(by first | with_reducible rfl | (subst er_1; first | with_reducible rfl | (simp only [sa_ap, si_ap, si_sa, sa_sa, sa_3, sa_4, sa_5, sa_6, sa_7, sa_8, up_us, up_up]; done) | (simp [sa_ap, si_ap, si_sa, sa_sa, sa_3, sa_4, sa_5, sa_6, sa_7, sa_8, up_us, up_up]; done))), (by first | with_reducible rfl | (subst er_1; first | with_reducible rfl | (simp only [sa_ap, si_ap, si_sa, sa_sa, sa_3, sa_4, sa_5, sa_6, sa_7, sa_8, up_us, up_up]; done) | (simp [sa_ap, si_ap, si_sa, sa_sa, sa_3, sa_4, sa_5, sa_6, sa_7, sa_8, up_us, up_up]; done))), rfl, rfl⟩

set_option maxHeartbeats 400000 in
set_option maxRecDepth 100000 in
/-- done.done -/
theorem c_L_done_8 (l : Launch) (D : va_G) (cy : Nat → ClassId) (A : Nat → Prop) (ad sad : Nat → Nat) (X M : XF) (K : KF) (p1 : Int32) (hx : xk_w 0 200 p1 = 0) (q2 q3 q4 q5 : Int32) : Met l yL_done (wsA yL_done cL_done 7 (some .int)) ({ frames := 2, cells := 0, slots := 0, locals := 44 }) (PcW D cy A ad sad X M K [.ref (ad 0), .int 8, .int p1, .int q2, .int q3, .int q4, .int q5]) (QiW D cy A ad (fun r X1 M1 K1 => r = X 100 0 ∧ X1 = si X 100 p1 ∧ M1 = M ∧ K1 = K)) 0 0 A := by
  refine met_ofW [(0, .ref (ad 0)), (1, .int 8), (2, .int p1), (3, .int q2), (4, .int q3), (5, .int q4), (6, .int q5)] (by decide +kernel) (Nat.le_of_ble_eq_true rfl) rfl ?_
  intro G C hl hR hL hD hcy hA had hsa hr hQ
  subst hD hcy hA had hsa hl
  refine g_iload_n C dL_done_0 1 rfl ?_
  refine g_tin C dL_done_1 (by decide) (by decide) (off := 170) (by decide) (tgt := 171) (by decide) ?_
  refine g_aload_n C dL_done_171 0 rfl ?_
  refine g_iload_n C dL_done_172 2 rfl ?_
  refine g_callViW C dL_done_173 (n_X10_setWind _ _ _ _ _ _ _ _ _ p1 hx) tw672 tw673 tw674 tw1 tw675 (rv_X10 C) rfl ⟨by decide +kernel, by decide +kernel, rfl⟩ ⟨rfl, rfl⟩ (by rw [hR]; decide) (Nat.le_of_ble_eq_true rfl) (by rw [hR]; decide) (fun r_1 X1 M1 K1 h_2 => ?_)
  obtain ⟨er_1, hX1, hM1, hK1⟩ := h_2
  subst X1 M1 K1
  try simp only [sa_ap, si_ap, reduceIte, Nat.reduceEqDiff] at er_1
  refine g_iretW C hr hQ (Nat.le_refl _) (Nat.le_refl _) dL_done_176 ?_
  exact ⟨(by first | with_reducible rfl | (subst er_1; first | with_reducible rfl | (simp only [sa_ap, si_ap, si_sa, sa_sa, sa_3, sa_4, sa_5, sa_6, sa_7, sa_8, up_us, up_up]; done) | (simp [sa_ap, si_ap, si_sa, sa_sa, sa_3, sa_4, sa_5, sa_6, sa_7, sa_8, up_us, up_up]; done))), (by first | with_reducible rfl | (subst er_1; first | with_reducible rfl | (simp only [sa_ap, si_ap, si_sa, sa_sa, sa_3, sa_4, sa_5, sa_6, sa_7, sa_8, up_us, up_up]; done) | (simp [sa_ap, si_ap, si_sa, sa_sa, sa_3, sa_4, sa_5, sa_6, sa_7, sa_8, up_us, up_up]; done))), rfl, rfl⟩

set_option maxHeartbeats 400000 in
set_option maxRecDepth 100000 in
/-- done.done -/
theorem c_L_done_9 (l : Launch) (D : va_G) (cy : Nat → ClassId) (A : Nat → Prop) (ad sad : Nat → Nat) (X M : XF) (K : KF) (p1 : Int32) (t : Nat) (ht0 : X 101 0 = nI t) (htl : t < 2 ^ 31) (hx : xk_w 0 99 p1 = 0) (q2 q3 q4 q5 : Int32) : Met l yL_done (wsA yL_done cL_done 7 (some .int)) ({ frames := 2, cells := 0, slots := 0, locals := 43 }) (PcW D cy A ad sad X M K [.ref (ad 0), .int 9, .int p1, .int q2, .int q3, .int q4, .int q5]) (QiW D cy A ad (fun r X1 M1 K1 => r = (if 20 < p1 then X 104 0 else X 104 0 + 1) ∧ X1 = (if 20 < p1 then X else si (sa X 21 (upd (X 21) (t % 600) (X 21 (t % 600) + 1))) 104 (X 104 0 + 1)) ∧ M1 = M ∧ K1 = K)) 0 0 A := by
  refine met_ofW [(0, .ref (ad 0)), (1, .int 9), (2, .int p1), (3, .int q2), (4, .int q3), (5, .int q4), (6, .int q5)] (by decide +kernel) (Nat.le_of_ble_eq_true rfl) rfl ?_
  intro G C hl hR hL hD hcy hA had hsa hr hQ
  subst hD hcy hA had hsa hl
  refine g_iload_n C dL_done_0 1 rfl ?_
  refine g_tin C dL_done_1 (by decide) (by decide) (off := 176) (by decide) (tgt := 177) (by decide) ?_
  refine g_aload_n C dL_done_177 0 rfl ?_
  refine g_iload_n C dL_done_178 2 rfl ?_
  refine g_callViW C dL_done_179 (n_X10_strike _ _ _ _ _ _ _ _ _ p1 t ht0 htl hx) tw677 tw678 tw679 tw1 tw680 (rv_X10 C) rfl ⟨by decide +kernel, by decide +kernel, rfl⟩ ⟨rfl, rfl⟩ (by rw [hR]; decide) (Nat.le_of_ble_eq_true rfl) (by rw [hR]; decide) (fun r_1 X1 M1 K1 h_2 => ?_)
  obtain ⟨er_1, hX1, hM1, hK1⟩ := h_2
  subst X1 M1 K1
  try simp only [sa_ap, si_ap, reduceIte, Nat.reduceEqDiff] at er_1
  refine g_iretW C hr hQ (Nat.le_refl _) (Nat.le_refl _) dL_done_182 ?_
  exact ⟨(by first | with_reducible rfl | (subst er_1; first | with_reducible rfl | (simp only [sa_ap, si_ap, si_sa, sa_sa, sa_3, sa_4, sa_5, sa_6, sa_7, sa_8, up_us, up_up]; done) | (simp [sa_ap, si_ap, si_sa, sa_sa, sa_3, sa_4, sa_5, sa_6, sa_7, sa_8, up_us, up_up]; done))), (by first | with_reducible rfl | (subst er_1; first | with_reducible rfl | (simp only [sa_ap, si_ap, si_sa, sa_sa, sa_3, sa_4, sa_5, sa_6, sa_7, sa_8, up_us, up_up]; done) | (simp [sa_ap, si_ap, si_sa, sa_sa, sa_3, sa_4, sa_5, sa_6, sa_7, sa_8, up_us, up_up]; done))), rfl, rfl⟩

set_option maxHeartbeats 400000 in
set_option maxRecDepth 100000 in
/-- done.done -/
theorem c_L_done_10 (l : Launch) (D : va_G) (cy : Nat → ClassId) (A : Nat → Prop) (ad sad : Nat → Nat) (X M : XF) (K : KF) (j : Nat) (hj : j < 8) (p2 p3 : Int32) (hx : xk_boat (nI j) p2 p3 = 0) (q4 q5 : Int32) : Met l yL_done (wsA yL_done cL_done 7 (some .int)) ({ frames := 3, cells := 0, slots := 0, locals := 67 }) (PcW D cy A ad sad X M K [.ref (ad 0), .int 10, .int (nI j), .int p2, .int p3, .int q4, .int q5]) (QiW D cy A ad (fun r X1 M1 K1 => r = bt_sum (upd (X 23) j (bt_risk p2 p3)) 8 ∧ X1 = sa X 23 (upd (X 23) j (bt_risk p2 p3)) ∧ M1 = M ∧ K1 = K)) 0 0 A := by
  refine met_ofW [(0, .ref (ad 0)), (1, .int 10), (2, .int (nI j)), (3, .int p2), (4, .int p3), (5, .int q4), (6, .int q5)] (by decide +kernel) (Nat.le_of_ble_eq_true rfl) rfl ?_
  intro G C hl hR hL hD hcy hA had hsa hr hQ
  subst hD hcy hA had hsa hl
  refine g_iload_n C dL_done_0 1 rfl ?_
  refine g_tin C dL_done_1 (by decide) (by decide) (off := 182) (by decide) (tgt := 183) (by decide) ?_
  refine g_aload_n C dL_done_183 0 rfl ?_
  refine g_iload_n C dL_done_184 2 rfl ?_
  refine g_iload_n C dL_done_185 3 rfl ?_
  refine g_iload C dL_done_186 4 rfl ?_
  refine g_callViW C dL_done_188 (n_X10_boat _ _ _ _ _ _ _ _ _ (nI j) p2 p3 hx) tw686 tw687 tw688 tw1 tw689 (rv_X10 C) rfl ⟨by decide +kernel, by decide +kernel, rfl⟩ ⟨rfl, rfl⟩ (by rw [hR]; decide) (Nat.le_of_ble_eq_true rfl) (by rw [hR]; decide) (fun r_1 X1 M1 K1 h_2 => ?_)
  obtain ⟨er_1, hX1, hM1, hK1⟩ := h_2
  simp only [nI_clamp (show j < 2 ^ 31 by omega)] at er_1 hX1
  subst X1 M1 K1
  try simp only [sa_ap, si_ap, reduceIte, Nat.reduceEqDiff] at er_1
  refine g_iretW C hr hQ (Nat.le_refl _) (Nat.le_refl _) dL_done_191 ?_
  exact ⟨(by first | with_reducible rfl | (subst er_1; first | with_reducible rfl | (simp only [sa_ap, si_ap, si_sa, sa_sa, sa_3, sa_4, sa_5, sa_6, sa_7, sa_8, up_us, up_up]; done) | (simp [sa_ap, si_ap, si_sa, sa_sa, sa_3, sa_4, sa_5, sa_6, sa_7, sa_8, up_us, up_up]; done))), (by first | with_reducible rfl | (subst er_1; first | with_reducible rfl | (simp only [sa_ap, si_ap, si_sa, sa_sa, sa_3, sa_4, sa_5, sa_6, sa_7, sa_8, up_us, up_up]; done) | (simp [sa_ap, si_ap, si_sa, sa_sa, sa_3, sa_4, sa_5, sa_6, sa_7, sa_8, up_us, up_up]; done))), rfl, rfl⟩

set_option maxHeartbeats 400000 in
set_option maxRecDepth 100000 in
/-- done.done -/
theorem c_L_done_11 (l : Launch) (D : va_G) (cy : Nat → ClassId) (A : Nat → Prop) (ad sad : Nat → Nat) (X M : XF) (K : KF) (p1 p2 p3 p4 p5 : Int32) (h0 : (p1.toUInt32 % 65536).toInt32 = p1) (h1 : isCh p1) (z : Nat) (hz : X 105 0 = nI z) (hzl : z ≤ 12) (hx : xk_rule (nI z) p1 p2 p3 p4 p5 = 0) : Met l yL_done (wsA yL_done cL_done 7 (some .int)) ({ frames := 3, cells := 0, slots := 0, locals := 67 }) (PcW D cy A ad sad X M K [.ref (ad 0), .int 11, .int p1, .int p2, .int p3, .int p4, .int p5]) (QiW D cy A ad (fun r X1 M1 K1 => r = nI z ∧ X1 = si (sa (sa (sa (sa (sa (sa X 25 (upd (X 25) z p1)) 26 (upd (X 26) z p2)) 27 (upd (X 27) z p3)) 28 (upd (X 28) z p4)) 29 (upd (X 29) z p5)) 33 (upd (X 33) z (-1))) 105 (nI z + 1) ∧ M1 = M ∧ K1 = K)) 0 0 A := by
  refine met_ofW [(0, .ref (ad 0)), (1, .int 11), (2, .int p1), (3, .int p2), (4, .int p3), (5, .int p4), (6, .int p5)] (by decide +kernel) (Nat.le_of_ble_eq_true rfl) rfl ?_
  intro G C hl hR hL hD hcy hA had hsa hr hQ
  subst hD hcy hA had hsa hl
  refine g_iload_n C dL_done_0 1 rfl ?_
  refine g_tin C dL_done_1 (by decide) (by decide) (off := 191) (by decide) (tgt := 192) (by decide) ?_
  refine g_aload_n C dL_done_192 0 rfl ?_
  refine g_iload_n C dL_done_193 2 rfl ?_
  refine g_i2c C dL_done_194 ?_
  refine g_topi (y := p1) h0 ?_
  refine g_iload_n C dL_done_195 3 rfl ?_
  refine g_iload C dL_done_196 4 rfl ?_
  refine g_iload C dL_done_198 5 rfl ?_
  refine g_iload C dL_done_200 6 rfl ?_
  refine g_callViW C dL_done_202 (n_X10_addRule _ _ _ _ _ _ _ _ _ p1 p2 p3 p4 p5 h1 z hz hzl hx) tw699 tw700 tw701 tw1 tw702 (rv_X10 C) rfl ⟨by decide +kernel, by decide +kernel, rfl⟩ ⟨rfl, rfl⟩ (by rw [hR]; decide) (Nat.le_of_ble_eq_true rfl) (by rw [hR]; decide) (fun r_1 X1 M1 K1 h_2 => ?_)
  obtain ⟨er_1, hX1, hM1, hK1⟩ := h_2
  subst X1 M1 K1
  try simp only [sa_ap, si_ap, reduceIte, Nat.reduceEqDiff] at er_1
  refine g_iretW C hr hQ (Nat.le_refl _) (Nat.le_refl _) dL_done_205 ?_
  exact ⟨(by first | with_reducible rfl | (subst er_1; first | with_reducible rfl | (simp only [sa_ap, si_ap, si_sa, sa_sa, sa_3, sa_4, sa_5, sa_6, sa_7, sa_8, up_us, up_up]; done) | (simp [sa_ap, si_ap, si_sa, sa_sa, sa_3, sa_4, sa_5, sa_6, sa_7, sa_8, up_us, up_up]; done))), (by first | with_reducible rfl | (subst er_1; first | with_reducible rfl | (simp only [sa_ap, si_ap, si_sa, sa_sa, sa_3, sa_4, sa_5, sa_6, sa_7, sa_8, up_us, up_up]; done) | (simp [sa_ap, si_ap, si_sa, sa_sa, sa_3, sa_4, sa_5, sa_6, sa_7, sa_8, up_us, up_up]; done))), rfl, rfl⟩

set_option maxHeartbeats 400000 in
set_option maxRecDepth 100000 in
/-- done.done -/
theorem c_L_done_12 (l : Launch) (D : va_G) (cy : Nat → ClassId) (A : Nat → Prop) (ad sad : Nat → Nat) (X M : XF) (K : KF) (j : Nat) (hj : j < 12) (p2 : Int32) (z : Nat) (hz : X 105 0 = nI z) (hzl : z ≤ 12) (hx : xk_may (nI z) (nI j) p2 = 0) (q3 q4 q5 : Int32) : Met l yL_done (wsA yL_done cL_done 7 (some .int)) ({ frames := 2, cells := 0, slots := 0, locals := 45 }) (PcW D cy A ad sad X M K [.ref (ad 0), .int 12, .int (nI j), .int p2, .int q3, .int q4, .int q5]) (QiW D cy A ad (fun r X1 M1 K1 => r = bz (if rl_may (X 32 j) p2 = 0 then 1 else 0) ∧ X1 = sa X 32 (upd (X 32) j (X 32 j ||| (1 <<< (p2 &&& 31)))) ∧ M1 = M ∧ K1 = K)) 0 0 A := by
  refine met_ofW [(0, .ref (ad 0)), (1, .int 12), (2, .int (nI j)), (3, .int p2), (4, .int q3), (5, .int q4), (6, .int q5)] (by decide +kernel) (Nat.le_of_ble_eq_true rfl) rfl ?_
  intro G C hl hR hL hD hcy hA had hsa hr hQ
  subst hD hcy hA had hsa hl
  refine g_iload_n C dL_done_0 1 rfl ?_
  refine g_tin C dL_done_1 (by decide) (by decide) (off := 205) (by decide) (tgt := 206) (by decide) ?_
  refine g_aload_n C dL_done_206 0 rfl ?_
  refine g_iload_n C dL_done_207 2 rfl ?_
  refine g_iload_n C dL_done_208 3 rfl ?_
  refine g_callViW C dL_done_209 (n_X10_mayWaive _ _ _ _ _ _ _ _ _ (nI j) p2 z hz hzl hx) tw712 tw713 tw714 tw1 tw715 (rv_X10 C) rfl ⟨by decide +kernel, by decide +kernel, rfl⟩ ⟨rfl, rfl⟩ (by rw [hR]; decide) (Nat.le_of_ble_eq_true rfl) (by rw [hR]; decide) (fun r_1 X1 M1 K1 h_2 => ?_)
  obtain ⟨er_1, hX1, hM1, hK1⟩ := h_2
  simp only [nI_clamp (show j < 2 ^ 31 by omega)] at er_1 hX1
  subst X1 M1 K1
  try simp only [sa_ap, si_ap, reduceIte, Nat.reduceEqDiff] at er_1
  refine g_callSiW C dL_done_212 (c_L_told _ _ _ _ _ _ _ _ _ _) tw534 tw535 tw0 tw536 rfl ⟨by decide +kernel, by decide +kernel, rfl⟩ ⟨rfl, rfl⟩ (by rw [hR]; decide) (Nat.le_of_ble_eq_true rfl) (by rw [hR]; decide) (fun r_3 X1 M1 K1 h_4 => ?_)
  obtain ⟨er_3, hX1, hM1, hK1⟩ := h_4
  subst X1 M1 K1
  try simp only [sa_ap, si_ap, reduceIte, Nat.reduceEqDiff] at er_3
  refine g_iretW C hr hQ (Nat.le_refl _) (Nat.le_refl _) dL_done_215 ?_
  exact ⟨(by first | with_reducible rfl | (subst er_1 er_3; first | with_reducible rfl | (simp only [sa_ap, si_ap, si_sa, sa_sa, sa_3, sa_4, sa_5, sa_6, sa_7, sa_8, up_us, up_up]; done) | (simp [sa_ap, si_ap, si_sa, sa_sa, sa_3, sa_4, sa_5, sa_6, sa_7, sa_8, up_us, up_up]; done))), (by first | with_reducible rfl | (subst er_1 er_3; first | with_reducible rfl | (simp only [sa_ap, si_ap, si_sa, sa_sa, sa_3, sa_4, sa_5, sa_6, sa_7, sa_8, up_us, up_up]; done) | (simp [sa_ap, si_ap, si_sa, sa_sa, sa_3, sa_4, sa_5, sa_6, sa_7, sa_8, up_us, up_up]; done))), rfl, rfl⟩

set_option maxHeartbeats 400000 in
set_option maxRecDepth 100000 in
/-- done.done -/
theorem c_L_done_13 (l : Launch) (D : va_G) (cy : Nat → ClassId) (A : Nat → Prop) (ad sad : Nat → Nat) (X M : XF) (K : KF) (j : Nat) (hj : j < 12) (p2 p3 : Int32) (z : Nat) (hz : X 105 0 = nI z) (hzl : z ≤ 12) (hx : xk_waive (X 32) (nI z) (nI j) p2 p3 = 0) (q4 q5 : Int32) : Met l yL_done (wsA yL_done cL_done 7 (some .int)) ({ frames := 3, cells := 0, slots := 0, locals := 67 }) (PcW D cy A ad sad X M K [.ref (ad 0), .int 13, .int (nI j), .int p2, .int p3, .int q4, .int q5]) (QiW D cy A ad (fun r X1 M1 K1 => r = bz (cl_iw X j) ∧ X1 = sa (sa X 33 (upd (X 33) j p2)) 34 (upd (X 34) j p3) ∧ M1 = M ∧ K1 = K)) 0 0 A := by
  refine met_ofW [(0, .ref (ad 0)), (1, .int 13), (2, .int (nI j)), (3, .int p2), (4, .int p3), (5, .int q4), (6, .int q5)] (by decide +kernel) (Nat.le_of_ble_eq_true rfl) rfl ?_
  intro G C hl hR hL hD hcy hA had hsa hr hQ
  subst hD hcy hA had hsa hl
  refine g_iload_n C dL_done_0 1 rfl ?_
  refine g_tin C dL_done_1 (by decide) (by decide) (off := 215) (by decide) (tgt := 216) (by decide) ?_
  refine g_aload_n C dL_done_216 0 rfl ?_
  refine g_iload_n C dL_done_217 2 rfl ?_
  refine g_iload_n C dL_done_218 3 rfl ?_
  refine g_iload C dL_done_219 4 rfl ?_
  refine g_callViW C dL_done_221 (n_X10_waive _ _ _ _ _ _ _ _ _ (nI j) p2 p3 z hz hzl hx) tw722 tw723 tw724 tw1 tw725 (rv_X10 C) rfl ⟨by decide +kernel, by decide +kernel, rfl⟩ ⟨rfl, rfl⟩ (by rw [hR]; decide) (Nat.le_of_ble_eq_true rfl) (by rw [hR]; decide) (fun r_1 X1 M1 K1 h_2 => ?_)
  obtain ⟨er_1, hX1, hM1, hK1⟩ := h_2
  simp only [nI_clamp (show j < 2 ^ 31 by omega)] at er_1 hX1
  subst X1 M1 K1
  try simp only [sa_ap, si_ap, reduceIte, Nat.reduceEqDiff] at er_1
  refine g_callSiW C dL_done_224 (c_L_told _ _ _ _ _ _ _ _ _ _) tw534 tw535 tw0 tw536 rfl ⟨by decide +kernel, by decide +kernel, rfl⟩ ⟨rfl, rfl⟩ (by rw [hR]; decide) (Nat.le_of_ble_eq_true rfl) (by rw [hR]; decide) (fun r_3 X1 M1 K1 h_4 => ?_)
  obtain ⟨er_3, hX1, hM1, hK1⟩ := h_4
  subst X1 M1 K1
  try simp only [sa_ap, si_ap, reduceIte, Nat.reduceEqDiff] at er_3
  refine g_iretW C hr hQ (Nat.le_refl _) (Nat.le_refl _) dL_done_227 ?_
  exact ⟨(by first | with_reducible rfl | (subst er_1 er_3; first | with_reducible rfl | (simp only [sa_ap, si_ap, si_sa, sa_sa, sa_3, sa_4, sa_5, sa_6, sa_7, sa_8, up_us, up_up]; done) | (simp [sa_ap, si_ap, si_sa, sa_sa, sa_3, sa_4, sa_5, sa_6, sa_7, sa_8, up_us, up_up]; done))), (by first | with_reducible rfl | (subst er_1 er_3; first | with_reducible rfl | (simp only [sa_ap, si_ap, si_sa, sa_sa, sa_3, sa_4, sa_5, sa_6, sa_7, sa_8, up_us, up_up]; done) | (simp [sa_ap, si_ap, si_sa, sa_sa, sa_3, sa_4, sa_5, sa_6, sa_7, sa_8, up_us, up_up]; done))), rfl, rfl⟩

set_option maxHeartbeats 400000 in
set_option maxRecDepth 100000 in
/-- done.done -/
theorem c_L_done_14 (l : Launch) (D : va_G) (cy : Nat → ClassId) (A : Nat → Prop) (ad sad : Nat → Nat) (X M : XF) (K : KF) (j : Nat) (hj : j < 6) (hb : ∀ i : Nat, isBo (X 41 i)) (q3 q4 q5 : Int32) : Met l yL_done (wsA yL_done cL_done 7 (some .int)) ({ frames := 2, cells := 0, slots := 0, locals := 44 }) (PcW D cy A ad sad X M K [.ref (ad 0), .int 14, .int (nI j), .int 1, .int q3, .int q4, .int q5]) (QiW D cy A ad (fun r X1 M1 K1 => r = bz (X 41 j) ∧ X1 = sa X 41 (upd (X 41) j 1) ∧ M1 = M ∧ K1 = K)) 0 0 A := by
  refine met_ofW [(0, .ref (ad 0)), (1, .int 14), (2, .int (nI j)), (3, .int 1), (4, .int q3), (5, .int q4), (6, .int q5)] (by decide +kernel) (Nat.le_of_ble_eq_true rfl) rfl ?_
  intro G C hl hR hL hD hcy hA had hsa hr hQ
  subst hD hcy hA had hsa hl
  refine g_iload_n C dL_done_0 1 rfl ?_
  refine g_tin C dL_done_1 (by decide) (by decide) (off := 227) (by decide) (tgt := 228) (by decide) ?_
  refine g_aload_n C dL_done_228 0 rfl ?_
  refine g_iload_n C dL_done_229 2 rfl ?_
  refine g_iload_n C dL_done_230 3 rfl ?_
  refine g_iconst C dL_done_231 (v := 1) (by decide) ?_
  refine g_icmp_ne C dL_done_232 (tgt := 239) (by decide) (fun c_232 => absurd c_232 (by decide)) (fun c_232 => ?_)
  refine g_iconst C dL_done_235 (v := 1) (by decide) ?_
  refine g_goto C dL_done_236 (tgt := 240) (by decide) ?_
  refine g_callViW C dL_done_240 (n_X10_go _ _ _ _ _ _ _ _ _ (nI j) 1 isBo_1 hb (xb_0 hj (by decide))) tw736 tw737 tw738 tw1 tw739 (rv_X10 C) rfl ⟨by decide +kernel, by decide +kernel, rfl⟩ ⟨rfl, rfl⟩ (by rw [hR]; decide) (Nat.le_of_ble_eq_true rfl) (by rw [hR]; decide) (fun r_1 X1 M1 K1 h_2 => ?_)
  obtain ⟨er_1, hX1, hM1, hK1⟩ := h_2
  simp only [nI_clamp (show j < 2 ^ 31 by omega)] at er_1 hX1
  subst X1 M1 K1
  try simp only [sa_ap, si_ap, reduceIte, Nat.reduceEqDiff] at er_1
  refine g_callSiW C dL_done_243 (c_L_told _ _ _ _ _ _ _ _ _ _) tw534 tw535 tw0 tw536 rfl ⟨by decide +kernel, by decide +kernel, rfl⟩ ⟨rfl, rfl⟩ (by rw [hR]; decide) (Nat.le_of_ble_eq_true rfl) (by rw [hR]; decide) (fun r_3 X1 M1 K1 h_4 => ?_)
  obtain ⟨er_3, hX1, hM1, hK1⟩ := h_4
  subst X1 M1 K1
  try simp only [sa_ap, si_ap, reduceIte, Nat.reduceEqDiff] at er_3
  refine g_iretW C hr hQ (Nat.le_refl _) (Nat.le_refl _) dL_done_246 ?_
  exact ⟨(by first | with_reducible rfl | (subst er_1 er_3; first | with_reducible rfl | (simp only [sa_ap, si_ap, si_sa, sa_sa, sa_3, sa_4, sa_5, sa_6, sa_7, sa_8, up_us, up_up]; done) | (simp [sa_ap, si_ap, si_sa, sa_sa, sa_3, sa_4, sa_5, sa_6, sa_7, sa_8, up_us, up_up]; done))), (by first | with_reducible rfl | (subst er_1 er_3; first | with_reducible rfl | (simp only [sa_ap, si_ap, si_sa, sa_sa, sa_3, sa_4, sa_5, sa_6, sa_7, sa_8, up_us, up_up]; done) | (simp [sa_ap, si_ap, si_sa, sa_sa, sa_3, sa_4, sa_5, sa_6, sa_7, sa_8, up_us, up_up]; done))), rfl, rfl⟩

set_option maxHeartbeats 400000 in
set_option maxRecDepth 100000 in
/-- done.done -/
theorem c_L_done_18 (l : Launch) (D : va_G) (cy : Nat → ClassId) (A : Nat → Prop) (ad sad : Nat → Nat) (X M : XF) (K : KF) (j : Nat) (hj : j < 2) (p2 : Int32) (hx : xk_track (nI j) p2 = 0) (q3 q4 q5 : Int32) : Met l yL_done (wsA yL_done cL_done 7 (some .int)) ({ frames := 2, cells := 0, slots := 0, locals := 45 }) (PcW D cy A ad sad X M K [.ref (ad 0), .int 18, .int (nI j), .int p2, .int q3, .int q4, .int q5]) (QiW D cy A ad (fun r X1 M1 K1 => r = X 37 j ∧ X1 = sa X 37 (upd (X 37) j p2) ∧ M1 = M ∧ K1 = K)) 0 0 A := by
  refine met_ofW [(0, .ref (ad 0)), (1, .int 18), (2, .int (nI j)), (3, .int p2), (4, .int q3), (5, .int q4), (6, .int q5)] (by decide +kernel) (Nat.le_of_ble_eq_true rfl) rfl ?_
  intro G C hl hR hL hD hcy hA had hsa hr hQ
  subst hD hcy hA had hsa hl
  refine g_iload_n C dL_done_0 1 rfl ?_
  refine g_tout C dL_done_1 (by decide) (tgt := 268) (by decide) ?_
  refine g_aload_n C dL_done_268 0 rfl ?_
  refine g_iload_n C dL_done_269 2 rfl ?_
  refine g_iload_n C dL_done_270 3 rfl ?_
  refine g_callViW C dL_done_271 (n_X10_track _ _ _ _ _ _ _ _ _ (nI j) p2 hx) tw1018 tw1019 tw1020 tw1 tw1021 (rv_X10 C) rfl ⟨by decide +kernel, by decide +kernel, rfl⟩ ⟨rfl, rfl⟩ (by rw [hR]; decide) (Nat.le_of_ble_eq_true rfl) (by rw [hR]; decide) (fun r_1 X1 M1 K1 h_2 => ?_)
  obtain ⟨er_1, hX1, hM1, hK1⟩ := h_2
  simp only [nI_clamp (show j < 2 ^ 31 by omega)] at er_1 hX1
  subst X1 M1 K1
  try simp only [sa_ap, si_ap, reduceIte, Nat.reduceEqDiff] at er_1
  refine g_iretW C hr hQ (Nat.le_refl _) (Nat.le_refl _) dL_done_274 ?_
  exact ⟨(by first | with_reducible rfl | (subst er_1; first | with_reducible rfl | (simp only [sa_ap, si_ap, si_sa, sa_sa, sa_3, sa_4, sa_5, sa_6, sa_7, sa_8, up_us, up_up]; done) | (simp [sa_ap, si_ap, si_sa, sa_sa, sa_3, sa_4, sa_5, sa_6, sa_7, sa_8, up_us, up_up]; done))), (by first | with_reducible rfl | (subst er_1; first | with_reducible rfl | (simp only [sa_ap, si_ap, si_sa, sa_sa, sa_3, sa_4, sa_5, sa_6, sa_7, sa_8, up_us, up_up]; done) | (simp [sa_ap, si_ap, si_sa, sa_sa, sa_3, sa_4, sa_5, sa_6, sa_7, sa_8, up_us, up_up]; done))), rfl, rfl⟩

set_option maxRecDepth 100000 in
theorem n_X10_pass1 (l : Launch) (D : va_G) (cy : Nat → ClassId) (A : Nat → Prop) (ad sad : Nat → Nat) (X M : XF) (K : KF) (v z z5 z8 : Nat) (hs : okS v z z5 z8 X) (hzl : z ≤ 12) (h5 : z5 ≤ 6) (h8 : z8 ≤ 16) (hv : v ≤ 100000) (h16 : 16 ≤ K.2.1 0) (hx : xk_pass (X 101 0) 1 = 0) (hcap : (ps_K z z5 z8 v X K 1).2.1 0 < 2 ^ 26) : Met l yX10_pass (wsA yX10_pass cX10_pass 3 (some .int)) ({ frames := 10, cells := (ps_K z z5 z8 v X K 1).2.1 4 - K.2.1 4, slots := (ps_K z z5 z8 v X K 1).2.1 6 - K.2.1 6, locals := 277 }) (PcW D cy A ad sad X M K [.ref (ad 0), .int 1]) (QiW D cy A ad (fun r X1 M1 K1 => r = nI (v + 1) ∧ X1 = ps_X z z5 z8 v X 1 ∧ M1 = M ∧ K1 = (ps_K z z5 z8 v X K 1))) ((ps_K z z5 z8 v X K 1).2.1 4 - K.2.1 4) ((ps_K z z5 z8 v X K 1).2.1 6 - K.2.1 6) A := by
  have e : (1 : Int32).toNatClampNeg = 1 := by decide
  have h := n_X10_pass l D cy A ad sad X M K 1 v z z5 z8 hs hzl h5 h8 hv h16 hx (by rw [e]; exact hcap)
  rw [e] at h
  exact h

set_option maxHeartbeats 400000 in
set_option maxRecDepth 100000 in
/-- done.done -/
theorem c_L_done_17 (l : Launch) (D : va_G) (cy : Nat → ClassId) (A : Nat → Prop) (ad sad : Nat → Nat) (X M : XF) (K : KF) (v z z5 z8 : Nat) (hs : okS v z z5 z8 X) (hzl : z ≤ 12) (h5 : z5 ≤ 6) (h8 : z8 ≤ 16) (hv : v ≤ 100000) (h16 : 16 ≤ K.2.1 0) (hx : xk_pass (X 101 0) 1 = 0) (hcap : (ps_K z z5 z8 v X K 1).2.1 0 < 2 ^ 26) (q2 q3 q4 q5 : Int32) : Met l yL_done (wsA yL_done cL_done 7 (some .int)) ({ frames := 11, cells := (ps_K z z5 z8 v X K 1).2.1 4 - K.2.1 4, slots := (ps_K z z5 z8 v X K 1).2.1 6 - K.2.1 6, locals := 299 }) (PcW D cy A ad sad X M K [.ref (ad 0), .int 17, .int 1, .int q2, .int q3, .int q4, .int q5]) (QiW D cy A ad (fun r X1 M1 K1 => r = nI (v + 1) ∧ X1 = ps_X z z5 z8 v X 1 ∧ M1 = M ∧ K1 = (ps_K z z5 z8 v X K 1))) ((ps_K z z5 z8 v X K 1).2.1 4 - K.2.1 4) ((ps_K z z5 z8 v X K 1).2.1 6 - K.2.1 6) A := by
  refine met_ofW [(0, .ref (ad 0)), (1, .int 17), (2, .int 1), (3, .int q2), (4, .int q3), (5, .int q4), (6, .int q5)] (by decide +kernel) (Nat.le_of_ble_eq_true rfl) rfl ?_
  intro G C hl hR hL hD hcy hA had hsa hr hQ
  subst hD hcy hA had hsa hl
  have hrc : (gR G).cells = (ps_K z z5 z8 v X K 1).2.1 4 - K.2.1 4 := by rw [hR]
  have hrs : (gR G).slots = (ps_K z z5 z8 v X K 1).2.1 6 - K.2.1 6 := by rw [hR]
  have hl1 := ps_le z z5 z8 v X K 0 1
  rw [Nat.zero_add] at hl1
  have hp00 : ps_K z z5 z8 v X K 0 = K := rfl
  rw [hp00] at hl1
  refine g_iload_n C dL_done_0 1 rfl ?_
  refine g_tin C dL_done_1 (by decide) (by decide) (off := 261) (by decide) (tgt := 262) (by decide) ?_
  refine g_aload_n C dL_done_262 0 rfl ?_
  refine g_iload_n C dL_done_263 2 rfl ?_
  refine g_callViW C dL_done_264 (n_X10_pass1 _ _ _ _ _ _ _ _ _ v z z5 z8 hs hzl h5 h8 hv h16 hx hcap) tw900 tw901 tw902 tw1 tw903 (rv_X10 C) rfl ⟨by decide +kernel, by decide +kernel, rfl⟩ ⟨rfl, rfl⟩ (by rw [hR]; exact ⟨Nat.le_of_ble_eq_true rfl, Nat.le_of_ble_eq_true rfl⟩) (Nat.le_of_ble_eq_true rfl) (by omega) (fun r_1 X1 M1 K1 h_2 => ?_)
  obtain ⟨er_1, hX1, hM1, hK1⟩ := h_2
  subst X1 M1 K1
  try simp only [sa_ap, si_ap, reduceIte, Nat.reduceEqDiff] at er_1
  refine g_iretW C hr hQ (by omega) (by omega) dL_done_267 ?_
  exact ⟨(by first | with_reducible rfl | (subst er_1; first | with_reducible rfl | (simp only [sa_ap, si_ap, si_sa, sa_sa, sa_3, sa_4, sa_5, sa_6, sa_7, sa_8, up_us, up_up]; done) | (simp [sa_ap, si_ap, si_sa, sa_sa, sa_3, sa_4, sa_5, sa_6, sa_7, sa_8, up_us, up_up]; done))), (by first | with_reducible rfl | (subst er_1; first | with_reducible rfl | (simp only [sa_ap, si_ap, si_sa, sa_sa, sa_3, sa_4, sa_5, sa_6, sa_7, sa_8, up_us, up_up]; done) | (simp [sa_ap, si_ap, si_sa, sa_sa, sa_3, sa_4, sa_5, sa_6, sa_7, sa_8, up_us, up_up]; done))), rfl, rfl⟩

