/-! the law's helpers: a call that may throw, its handlers, the law's own rows -/
def ncL : List (String × String) := [("java/lang/IllegalStateException", "java/lang/IllegalArgumentException"), ("java/lang/IllegalArgumentException", "java/lang/IndexOutOfBoundsException"), ("java/lang/IllegalStateException", "java/lang/IndexOutOfBoundsException"), ("java/lang/UnsupportedOperationException", "java/lang/IllegalArgumentException"), ("java/lang/IllegalStateException", "java/lang/UnsupportedOperationException"), ("java/lang/UnsupportedOperationException", "java/lang/IndexOutOfBoundsException")]
def NcU (U : State) : Prop := ∀ q ∈ ncL, va_Nc q.1 q.2 U
def kO (K : KF) (v : Int64) : KF := (K.1, K.2.1, K.2.2.1, vp_updL K.2.2.2.1 0 v, K.2.2.2.2)
def kD (K : KF) (v : UInt64) : KF := (K.1, K.2.1, K.2.2.1, K.2.2.2.1, vf_upd K.2.2.2.2 0 v)
theorem kO_at (K : KF) (v : Int64) : (kO K v).2.2.2.1 0 = v := by
  show (if (0 : Nat) = 0 then v else K.2.2.2.1 0) = v
  exact if_pos rfl
theorem kD_at (K : KF) (v : UInt64) : (kD K v).2.2.2.2 0 = v := by
  show (if (0 : Nat) = 0 then v else K.2.2.2.2 0) = v
  exact if_pos rfl
section
variable {G : MC} {cc : ByteArray} {own : String} {X M : XF} {K : KF} {L : List (Nat × Value)} {k n pc : Nat} {stk : List Value}
theorem wS_74 (ad : Nat → Nat) (cy : Nat → ClassId) (X M : XF) (K : KF) (b0 b1 : Nat) (f0 f1 : Nat → Int32) (v : Int64) : (wL ad cy b0 b1 f0 f1 X M K).set 74 (ad 74, .inl (cy 4, 1, .inr (.inl (vp_updL K.2.2.2.1 0 v)))) = wL ad cy b0 b1 f0 f1 X M (kO K v) := rfl
theorem wS_75 (ad : Nat → Nat) (cy : Nat → ClassId) (X M : XF) (K : KF) (b0 b1 : Nat) (f0 f1 : Nat → Int32) (v : UInt64) : (wL ad cy b0 b1 f0 f1 X M K).set 75 (ad 75, .inl (cy 5, 1, .inr (.inr (.inr (.inl (vf_upd K.2.2.2.2 0 v)))))) = wL ad cy b0 b1 f0 f1 X M (kD K v) := rfl
theorem as_74 (C : Cx G cc own) {v : Int64} (d : decode cc pc = .ok (.lastore, 1)) (kk : GH G (WX G X M (kO K v)) L k n (pc + 1) stk) : GH G (WX G X M K) L k n pc (.long v :: .int 0 :: .ref (gad G 74) :: stk) := by
  intro H locs ls hl hw hS
  obtain ⟨b0, b1, f0, f1, h0, h1, hP, hD⟩ := hw
  refine va_last C.x C.b C.K hP hD hS 74 4 (wL_74 (gad G) (gcy G) X M K b0 b1 f0 f1) rfl (i := 0) (show vp_in 0 1 from vp_in_nI (n := 0) (N := 1) (by decide) (by decide)) d (fun H1 locs1 hP hD hS1 => ?_)
  have e : (0 : Int32).toNatClampNeg = 0 := rfl
  rw [e, wS_74] at hP hD
  exact kk H1 locs1 ls hl ⟨b0, b1, f0, f1, h0, h1, hP, hD⟩ hS1
theorem as_75 (C : Cx G cc own) {v : UInt64} (d : decode cc pc = .ok (.dastore, 1)) (kk : GH G (WX G X M (kD K v)) L k n (pc + 1) stk) : GH G (WX G X M K) L k n pc (.double v :: .int 0 :: .ref (gad G 75) :: stk) := by
  intro H locs ls hl hw hS
  obtain ⟨b0, b1, f0, f1, h0, h1, hP, hD⟩ := hw
  refine va_dast C.x C.b C.K hP hD hS 75 5 (wL_75 (gad G) (gcy G) X M K b0 b1 f0 f1) rfl (i := 0) (show vp_in 0 1 from vp_in_nI (n := 0) (N := 1) (by decide) (by decide)) d (fun H1 locs1 hP hD hS1 => ?_)
  have e : (0 : Int32).toNatClampNeg = 0 := rfl
  rw [e, wS_75] at hP hD
  exact kk H1 locs1 ls hl ⟨b0, b1, f0, f1, h0, h1, hP, hD⟩ hS1
theorem al_74 (C : Cx G cc own) (d : decode cc pc = .ok (.laload, 1)) (kk : GH G (WX G X M K) L k n (pc + 1) (.long (K.2.2.2.1 0) :: stk)) : GH G (WX G X M K) L k n pc (.int 0 :: .ref (gad G 74) :: stk) := by
  intro H locs ls hl hw hS
  obtain ⟨b0, b1, f0, f1, h0, h1, hP, hD⟩ := id hw
  exact va_lald C.x C.b C.K hP 74 4 (wL_74 (gad G) (gcy G) X M K b0 b1 f0 f1) rfl (i := 0) (show vp_in 0 1 from vp_in_nI (n := 0) (N := 1) (by decide) (by decide)) d (kk H locs ls hl hw hS)
theorem al_75 (C : Cx G cc own) (d : decode cc pc = .ok (.daload, 1)) (kk : GH G (WX G X M K) L k n (pc + 1) (.double (K.2.2.2.2 0) :: stk)) : GH G (WX G X M K) L k n pc (.int 0 :: .ref (gad G 75) :: stk) := by
  intro H locs ls hl hw hS
  obtain ⟨b0, b1, f0, f1, h0, h1, hP, hD⟩ := id hw
  exact va_dald C.x C.b C.K hP 75 5 (wL_75 (gad G) (gcy G) X M K b0 b1 f0 f1) rfl (i := 0) (show vp_in 0 1 from vp_in_nI (n := 0) (N := 1) (by decide) (by decide)) d (kk H locs ls hl hw hS)
/-- an exception under way over the frame at pc -/
def GV (G : MC) (Wp : Heap → Prop) (L : List (Nat × Value)) (k n pc : Nat) (rest : List Value) (E : String) : Prop :=
  ∀ (H : Heap) (locs : List Loc) (ls : Array Slot) (ce : Cell) (q : Nat), lv_has ls (gL G) L → Wp H → va_S (gA G) (gs G).heap H locs → H[q]? = some ce → ce.vm = .none → (gs G).vm.findClass E = some ce.cls →
    vx_W (gp G) (gl G) (ge G) (gR G) (gs G) (gm G) (gas G) (gbe G) (gme G) (gc G) H locs k n (gQ G) (F0 (gm G) pc ls rest) q
theorem g_catch {Wp : Heap → Prop} {rest : List Value} (C : Cx G cc own) {name E : String} {hp : Nat} (pre : List ExceptionTableEntry) (x : ExceptionTableEntry) (suf : List ExceptionTableEntry) (hsplit : (gc G).exceptionTable.toList = pre ++ x :: suf) (hpass : ∀ z ∈ pre, z.catchType ≠ 0 ∧ ∃ nm : String, Cond.classLink own z.catchType nm ∈ lw_all ∧ va_Nc E nm (gs G)) (hx : covers x pc = true) (h0 : x.catchType ≠ 0) (hlink : Cond.classLink own x.catchType name ∈ lw_all) (hcast : (E, name) ∈ castL) (hh : x.handlerPc = hp) (kk : ∀ q : Nat, GH G Wp L k n hp [.ref q]) : GV G Wp L k n pc rest E := by
  intro H locs ls ce q hl hw hS hce hcv hcl
  subst hh
  exact vx_catch C.o pre x suf hsplit (fun z hz => Or.inr ⟨(hpass z hz).1, by obtain ⟨nm, h1, h2⟩ := (hpass z hz).2; exact ⟨nm, C.ts _ h1, h2⟩⟩) hx h0 (C.ts _ hlink) (va_Nw.use rfl (C.gl.2.2.2.2.1 _ hcast)) hce hcv hcl (kk q H locs ls hl hw hS)
end
section
variable {G : MC} {cc bytes : ByteArray} {own : String} {X M : XF} {K : KF} {L : List (Nat × Value)} {k n pc maxL idx mc ms b : Nat} {ret : Option FieldType} {As rest st0 : List Value} {y : MethodName} {rm : Room} {px : String → XF → XF → KF → Prop}
theorem g_tryi {pst : Int32 → XF → XF → KF → Prop} (C : Cx G cc own) (hM : vx_Met (gl G) y (wsA y bytes maxL ret) rm (PcW (gD G) (gcy G) (gA G) (gad G) (gsa G) X M K (.ref b :: As)) (QiW (gD G) (gcy G) (gA G) (gad G) pst) (XcW (gD G) (gcy G) (gA G) (gad G) px) mc ms (gA G)) (hlk : Cond.methodLink own idx y ∈ lw_all) (hin : Cond.instanceMethod y ∈ lw_all) (hse : Cond.selects y.cls y y ∈ lw_all) (hini : Cond.initialized y.cls ∈ lw_all) (hco : Cond.code y bytes maxL ret ∈ lw_all) (hrecv : ∀ H, WX G X M K H → ∃ cellB : Cell, H[b]? = some cellB ∧ cellB.vm.isStatics = false ∧ (gs G).vm.findClass y.cls = some cellB.cls) (hst0 : st0 = As.reverse ++ .ref b :: rest) (hd : y.cls ≠ "java/lang/invoke/MethodHandle" ∧ y.cls ≠ "java/lang/invoke/VarHandle" ∧ (parseMethodDescriptor y.desc).map (fun d => d.parameters.length) = some As.length) (hrm : rm.cells = mc ∧ rm.slots = ms) (hR : rm.frames + 1 ≤ (gR G).frames ∧ 8 + (maxL + 11) + rm.locals ≤ (gR G).locals) (hW : (rest.map fun v => v.category).sum ≤ 8) (d : decode cc pc = .ok (.invokevirtual idx, 3)) (hf : k + mc ≤ (gR G).cells ∧ n + ms ≤ (gR G).slots)
    (kx : ∀ (E : String) (X' M' : XF) (K' : KF), px E X' M' K' → GV G (WX G X' M' K') L (k + mc) (n + ms) pc rest E) (kk : ∀ (r : Int32) (X' M' : XF) (K' : KF), pst r X' M' K' → GH G (WX G X' M' K') L (k + mc) (n + ms) (pc + 3) (.int r :: rest)) : GH G (WX G X M K) L k n pc st0 := by
  intro H locs ls hl hw hS
  exact vx_calli (vx_runV (As := As) (rest := rest) C.fix hM (cwV As.length C.ts (goodV hlk hin hse hini (goodA hco)) rfl hrm.1 hrm.2 ⟨rfl, hd⟩ hR) ⟨PcH.blind, hrecv H hw, fun U hU hW => PcH.at C hw hS hU hW⟩ rfl rfl hl.1 hst0 (lv_room hW) d hf) hS (fun q _ h => h) (fun q h => h) (fun q _ h => h) (fun E ce q9 u t H1 locs1 ht hvm hp hB hz hk hS1 hce hcv hcl => kx E u.1 u.2.1 u.2.2 hB.1 H1 locs1 ls ce q9 hl (by rw [← ht]; exact hB.2) hS1 hce hcv hcl) (fun r u t H1 locs1 ht hvm hp hB hz hk hS1 => kk r u.1 u.2.1 u.2.2 hp H1 locs1 ls hl (by rw [← ht]; exact hB) hS1)
theorem g_tryf {pst : UInt32 → XF → XF → KF → Prop} (C : Cx G cc own) (hM : vx_Met (gl G) y (wsA y bytes maxL ret) rm (PcW (gD G) (gcy G) (gA G) (gad G) (gsa G) X M K (.ref b :: As)) (QfW (gD G) (gcy G) (gA G) (gad G) pst) (XcW (gD G) (gcy G) (gA G) (gad G) px) mc ms (gA G)) (hlk : Cond.methodLink own idx y ∈ lw_all) (hin : Cond.instanceMethod y ∈ lw_all) (hse : Cond.selects y.cls y y ∈ lw_all) (hini : Cond.initialized y.cls ∈ lw_all) (hco : Cond.code y bytes maxL ret ∈ lw_all) (hrecv : ∀ H, WX G X M K H → ∃ cellB : Cell, H[b]? = some cellB ∧ cellB.vm.isStatics = false ∧ (gs G).vm.findClass y.cls = some cellB.cls) (hst0 : st0 = As.reverse ++ .ref b :: rest) (hd : y.cls ≠ "java/lang/invoke/MethodHandle" ∧ y.cls ≠ "java/lang/invoke/VarHandle" ∧ (parseMethodDescriptor y.desc).map (fun d => d.parameters.length) = some As.length) (hrm : rm.cells = mc ∧ rm.slots = ms) (hR : rm.frames + 1 ≤ (gR G).frames ∧ 8 + (maxL + 11) + rm.locals ≤ (gR G).locals) (hW : (rest.map fun v => v.category).sum ≤ 8) (d : decode cc pc = .ok (.invokevirtual idx, 3)) (hf : k + mc ≤ (gR G).cells ∧ n + ms ≤ (gR G).slots)
    (kx : ∀ (E : String) (X' M' : XF) (K' : KF), px E X' M' K' → GV G (WX G X' M' K') L (k + mc) (n + ms) pc rest E) (kk : ∀ (r : UInt32) (X' M' : XF) (K' : KF), pst r X' M' K' → GH G (WX G X' M' K') L (k + mc) (n + ms) (pc + 3) (.float r :: rest)) : GH G (WX G X M K) L k n pc st0 := by
  intro H locs ls hl hw hS
  exact vx_callf (vx_runV (As := As) (rest := rest) C.fix hM (cwV As.length C.ts (goodV hlk hin hse hini (goodA hco)) rfl hrm.1 hrm.2 ⟨rfl, hd⟩ hR) ⟨PcH.blind, hrecv H hw, fun U hU hW => PcH.at C hw hS hU hW⟩ rfl rfl hl.1 hst0 (lv_room hW) d hf) hS (fun q _ h => h) (fun q h => h) (fun q _ h => h) (fun E ce q9 u t H1 locs1 ht hvm hp hB hz hk hS1 hce hcv hcl => kx E u.1 u.2.1 u.2.2 hB.1 H1 locs1 ls ce q9 hl (by rw [← ht]; exact hB.2) hS1 hce hcv hcl) (fun r u t H1 locs1 ht hvm hp hB hz hk hS1 => kk r u.1 u.2.1 u.2.2 hp H1 locs1 ls hl (by rw [← ht]; exact hB) hS1)
theorem g_tryd {pst : UInt64 → XF → XF → KF → Prop} (C : Cx G cc own) (hM : vx_Met (gl G) y (wsA y bytes maxL ret) rm (PcW (gD G) (gcy G) (gA G) (gad G) (gsa G) X M K (.ref b :: As)) (QdW (gD G) (gcy G) (gA G) (gad G) pst) (XcW (gD G) (gcy G) (gA G) (gad G) px) mc ms (gA G)) (hlk : Cond.methodLink own idx y ∈ lw_all) (hin : Cond.instanceMethod y ∈ lw_all) (hse : Cond.selects y.cls y y ∈ lw_all) (hini : Cond.initialized y.cls ∈ lw_all) (hco : Cond.code y bytes maxL ret ∈ lw_all) (hrecv : ∀ H, WX G X M K H → ∃ cellB : Cell, H[b]? = some cellB ∧ cellB.vm.isStatics = false ∧ (gs G).vm.findClass y.cls = some cellB.cls) (hst0 : st0 = As.reverse ++ .ref b :: rest) (hd : y.cls ≠ "java/lang/invoke/MethodHandle" ∧ y.cls ≠ "java/lang/invoke/VarHandle" ∧ (parseMethodDescriptor y.desc).map (fun d => d.parameters.length) = some As.length) (hrm : rm.cells = mc ∧ rm.slots = ms) (hR : rm.frames + 1 ≤ (gR G).frames ∧ 8 + (maxL + 11) + rm.locals ≤ (gR G).locals) (hW : (rest.map fun v => v.category).sum ≤ 8) (d : decode cc pc = .ok (.invokevirtual idx, 3)) (hf : k + mc ≤ (gR G).cells ∧ n + ms ≤ (gR G).slots)
    (kx : ∀ (E : String) (X' M' : XF) (K' : KF), px E X' M' K' → GV G (WX G X' M' K') L (k + mc) (n + ms) pc rest E) (kk : ∀ (r : UInt64) (X' M' : XF) (K' : KF), pst r X' M' K' → GH G (WX G X' M' K') L (k + mc) (n + ms) (pc + 3) (.double r :: rest)) : GH G (WX G X M K) L k n pc st0 := by
  intro H locs ls hl hw hS
  exact vx_calld (vx_runV (As := As) (rest := rest) C.fix hM (cwV As.length C.ts (goodV hlk hin hse hini (goodA hco)) rfl hrm.1 hrm.2 ⟨rfl, hd⟩ hR) ⟨PcH.blind, hrecv H hw, fun U hU hW => PcH.at C hw hS hU hW⟩ rfl rfl hl.1 hst0 (lv_room hW) d hf) hS (fun q _ h => h) (fun q h => h) (fun q _ h => h) (fun E ce q9 u t H1 locs1 ht hvm hp hB hz hk hS1 hce hcv hcl => kx E u.1 u.2.1 u.2.2 hB.1 H1 locs1 ls ce q9 hl (by rw [← ht]; exact hB.2) hS1 hce hcv hcl) (fun r u t H1 locs1 ht hvm hp hB hz hk hS1 => kk r u.1 u.2.1 u.2.2 hp H1 locs1 ls hl (by rw [← ht]; exact hB) hS1)
end
/-- a helper's start -/
def PcL (D : va_G) (cy : Nat → ClassId) (A : Nat → Prop) (ad sad : Nat → Nat) (X M : XF) (K : KF) (av : List Value) : Array Value → State → Prop :=
  va_Pc av (fun U => NcU U ∧ (∀ q : Nat, U.heap.size ≤ q → A q) ∧ va_K D clT (tyT cy) U ∧ Gl A sad U U.heap ∧ Wd D cy A ad X M K U.heap)
theorem PcL.blind {D : va_G} {cy : Nat → ClassId} {A : Nat → Prop} {ad sad : Nat → Nat} {X M : XF} {K : KF} {av : List Value} : FrameBlind (PcL D cy A ad sad X M K av) := fun a U g mk q => by
  obtain ⟨q0, q1, q2, q3, q4, q5⟩ := q
  exact ⟨q0, fun z hz => va_Nc.moved (u := U) (U := U.calling g mk a) (Vm.Alike.refl U.vm) (q1 z hz), q2, va_K.moved (u := U) (U := U.calling g mk a) (Vm.Alike.refl U.vm) q3, Gl.same (u := U) (U := U.calling g mk a) rfl q4, q5⟩
theorem PcL.at {G : MC} {cc : ByteArray} {own : String} {X M : XF} {K : KF} {av : List Value} {H : Heap} {locs : List Loc} (C : Cx G cc own) (hN : NcU (gs G)) (hw : WX G X M K H) (hS : va_S (gA G) (gs G).heap H locs) {U : State} (hU : U.heap = H) (hW : (gs G).WarmedH U.vm) : PcL (gD G) (gcy G) (gA G) (gad G) (gsa G) X M K av av.toArray U :=
  ⟨rfl, fun z hz => va_Nc.moved hW.alike (hN z hz), fun q h => C.new q (Nat.le_trans hS.1 (by rw [← hU]; exact h)), va_K.moved hW.alike C.K, Gl.moved hW (by rw [hU]; exact C.gl.kept hS.2.1), by rw [hU]; exact hw⟩
theorem met_ofH {l : Launch} {y : MethodName} {ws ws' : List Cond} {rm : Room} {Pc : Array Value → State → Prop} {Qc : Array Value → State → Outcome → State → Prop} {mc ms : Nat} {free : Addr → Prop} {cc : ByteArray} {maxL : Nat} {ret : Option FieldType} {hh : List (Nat × Nat × Nat × Nat)} (hy : plainName y.cls = true) (hw : ws = Cond.codeWith y cc maxL ret hh :: ws')
    (body : ∀ p e s m args below meth c s₁, BodyLoose p l y (headSpec ws rm) cc maxL ret e s m args below meth c s₁ → c.maxLocals = maxL → Pc args s → W p l e (headSpec ws rm).room s m args below meth c s.heap [] 0 0 (MQ below Qc args s mc ms free) (entryFrame m args maxL)) : Met l y ws rm Pc Qc mc ms free := by
  refine MetFree.of_bodyS (code := cc) (maxLocals := maxL) (ret := ret) hy ?_ ?_
  · intro args s m h hn
    obtain ⟨m9, meth, c, hn9, h1, h2, h3, h4, -, h5, h6, -⟩ := Cond.codeWith_spec (atoms_spec (ws := ws) h _ (by rw [hw]; exact List.mem_cons_self))
    cases hn.symm.trans hn9
    exact ⟨meth, c, h1, h2, h3, h4, h5, h6⟩
  · intro p e s m args below meth c s₁ B hml hP _
    have hh0 : s₁.heap = s.heap := by rw [B.state]; rfl
    obtain ⟨t, a1, o, b1, b2, b3⟩ := body p e s m args below meth c s₁ B hml hP s₁ hh0 (Stand.of_body B)
    exact ⟨t, o, a1, b1, b2, b3⟩
theorem met_ofL {l : Launch} {y : MethodName} {cc : ByteArray} {maxL : Nat} {ret : Option FieldType} {hh : List (Nat × Nat × Nat × Nat)} {rm : Room} {Qc : Array Value → State → Outcome → State → Prop} {mc ms : Nat} {D : va_G} {cy : Nat → ClassId} {A : Nat → Prop} {ad sad : Nat → Nat} {X M : XF} {K : KF} {av : List Value} (L0 : List (Nat × Value)) (hy : plainName y.cls = true) (hlen : (lg_sl av).length ≤ maxL) (hL0 : lv_args 0 av = L0)
    (body : ∀ G : MC, Cx G cc y.cls → gl G = l → gR G = rm → gL G = maxL → gD G = D → gcy G = cy → gA G = A → gad G = ad → gsa G = sad → (gc G).exceptionTable.toList = tableOf hh → NcU (gs G) → (gme G).sig.returnType = ret → gQ G = MQ (gbe G) Qc (gas G) (gs G) mc ms (gA G) → GH G (Wd D cy A ad X M K) L0 0 0 0 []) : Met l y (wsH y cc maxL ret hh) rm (PcL D cy A ad sad X M K av) Qc mc ms A := by
  subst hL0
  refine met_ofH (cc := cc) (maxL := maxL) (ret := ret) hy rfl ?_
  intro p e s m args below meth c s₁ B hml hv
  obtain ⟨rfl, hN, hnew, hK, hG, hW⟩ := hv
  have hts := atoms_spec (ws := wsH y cc maxL ret hh) B.pre
  have C0 : Cx (p, l, e, rm, s, m, av.toArray, below, meth, c, D, cy, A, ad, sad, maxL, MQ below Qc av.toArray s mc ms A) cc y.cls := ⟨B.exec, B.bytes, hml, findClass_of_methodNamed B.named, fun w hw => hts w (List.mem_cons_of_mem _ hw), hK, hG, B.notSynchronized, hnew⟩
  have K := body _ C0 rfl rfl rfl rfl rfl rfl rfl rfl (vx_table (x := y) B (hts _ List.mem_cons_self)) hN B.returns rfl
  have hl := lv_entry av (n := maxL) hlen
  rw [lg_entry_eq]
  exact K s.heap [] _ hl hW va_S.rf

set_option maxHeartbeats 400000 in
set_option maxRecDepth 100000 in
/-- pass.pass -/
theorem c_X10_passX (l : Launch) (D : va_G) (cy : Nat → ClassId) (A : Nat → Prop) (ad sad : Nat → Nat) (X M : XF) (K : KF) (p1 : Int32) (hx : ¬ xk_pass (X 101 0) p1 = 0) (hst : l.stackTraces = false) : vx_Met l yX10_pass (wsA yX10_pass cX10_pass 3 (some .int)) ({ frames := 6, cells := 1, slots := 6, locals := 82 }) (PcW D cy A ad sad X M K [.ref (ad 0), .int p1]) (QiW D cy A ad (fun r X1 M1 K1 => xk_pass (X 101 0) p1 = 0 ∧ r = 0 ∧ X1 = X ∧ M1 = M ∧ K1 = K)) (XcW D cy A ad (fun E X1 M1 K1 => ¬ xk_pass (X 101 0) p1 = 0 ∧ E = xn "java/lang/IllegalArgumentException" "java/lang/IllegalStateException" "java/lang/IllegalStateException" (xk_pass (X 101 0) p1) ∧ X1 = X ∧ M1 = M ∧ K1 = K)) 1 6 A := by
  refine vet_ofW [(0, .ref (ad 0)), (1, .int p1)] (by decide +kernel) (Nat.le_of_ble_eq_true rfl) rfl ?_
  intro G C hl hR hL hD hcy hA had hsa hr ht hQ
  subst hD hcy hA had hsa hl
  refine g_iload_n C dX10_pass_0 1 rfl ?_
  refine g_iconst C dX10_pass_1 (v := 1) (by decide) ?_
  refine g_sipush C dX10_pass_2 (v := 600) (by decide) ?_
  refine g_callSiW C dX10_pass_5 (c_X10_isWithin _ _ _ _ _ _ _ _ _ _ _ _) tw600 tw570 tw1 tw571 rfl ⟨by decide +kernel, by decide +kernel, rfl⟩ ⟨rfl, rfl⟩ (by rw [hR]; decide) (Nat.le_of_ble_eq_true rfl) (by rw [hR]; decide) (fun r_1 X1 M1 K1 h_2 => ?_)
  obtain ⟨er_1, hX1, hM1, hK1⟩ := h_2
  subst X1 M1 K1
  try simp only [sa_ap, si_ap, reduceIte, Nat.reduceEqDiff] at er_1
  refine g_if_ne C dX10_pass_8 (tgt := 22) (by decide) (fun c_8 => ?_) (fun c_8 => ?_)
  · try simp only [sa_ap, si_ap, reduceIte, Nat.reduceEqDiff, up_us, lg_cmp_lt, lg_cmp_gt, lg_cmp_le, lg_cmp_ge] at c_8
    refine g_aload_n C dX10_pass_22 0 rfl ?_
    refine gf_X10_now C tw330 dX10_pass_23 ?_
    refine g_iload_n C dX10_pass_26 1 rfl ?_
    refine g_iadd C dX10_pass_27 ?_
    refine g_ldc C dX10_pass_28 tw599 ?_
    refine g_icmp_le C dX10_pass_30 (tgt := 44) (by decide) (fun c_30 => ?_) (fun c_30 => ?_)
    · try simp only [sa_ap, si_ap, reduceIte, Nat.reduceEqDiff, up_us, lg_cmp_lt, lg_cmp_gt, lg_cmp_le, lg_cmp_ge] at c_30
      exact absurd (by first | with_reducible rfl | (subst er_1; first | with_reducible rfl | (simp only [sa_ap, si_ap, si_sa, sa_sa, sa_3, sa_4, sa_5, sa_6, sa_7, sa_8, xk_pass, xn, up_us, up_up, c_8, c_30]; done) | (simp [sa_ap, si_ap, si_sa, sa_sa, sa_3, sa_4, sa_5, sa_6, sa_7, sa_8, xk_pass, xn, up_us, up_up, c_8, c_30]; done))) hx
    · try simp only [sa_ap, si_ap, reduceIte, Nat.reduceEqDiff, up_us, lg_cmp_lt, lg_cmp_gt, lg_cmp_le, lg_cmp_ge] at c_30
      refine g_throwW C hst ht hQ th_138 th_ot_138 tw717 tw22 (i := 24) ⟨by decide, rfl⟩ dX10_pass_33 dX10_pass_36 dX10_pass_37 dX10_pass_40 dX10_pass_43 (by rw [hR]; decide) (by rw [hR]; decide) (by decide) ?_
      exact ⟨(by first | with_reducible rfl | (subst er_1; first | with_reducible rfl | (simp only [sa_ap, si_ap, si_sa, sa_sa, sa_3, sa_4, sa_5, sa_6, sa_7, sa_8, xk_pass, xn, up_us, up_up, c_8, c_30]; done) | (simp [sa_ap, si_ap, si_sa, sa_sa, sa_3, sa_4, sa_5, sa_6, sa_7, sa_8, xk_pass, xn, up_us, up_up, c_8, c_30]; done))), (by first | with_reducible rfl | (subst er_1; first | with_reducible rfl | (simp only [sa_ap, si_ap, si_sa, sa_sa, sa_3, sa_4, sa_5, sa_6, sa_7, sa_8, xk_pass, xn, up_us, up_up, c_8, c_30]; done) | (simp [sa_ap, si_ap, si_sa, sa_sa, sa_3, sa_4, sa_5, sa_6, sa_7, sa_8, xk_pass, xn, up_us, up_up, c_8, c_30]; done))), (by first | with_reducible rfl | (subst er_1; first | with_reducible rfl | (simp only [sa_ap, si_ap, si_sa, sa_sa, sa_3, sa_4, sa_5, sa_6, sa_7, sa_8, xk_pass, xn, up_us, up_up, c_8, c_30]; done) | (simp [sa_ap, si_ap, si_sa, sa_sa, sa_3, sa_4, sa_5, sa_6, sa_7, sa_8, xk_pass, xn, up_us, up_up, c_8, c_30]; done))), rfl, rfl⟩
  · try simp only [sa_ap, si_ap, reduceIte, Nat.reduceEqDiff, up_us, lg_cmp_lt, lg_cmp_gt, lg_cmp_le, lg_cmp_ge] at c_8
    refine g_throwW C hst ht hQ th_103 th_ot_103 tw601 tw20 (i := 23) ⟨by decide, rfl⟩ dX10_pass_11 dX10_pass_14 dX10_pass_15 dX10_pass_18 dX10_pass_21 (by rw [hR]; decide) (by rw [hR]; decide) (by decide) ?_
    exact ⟨(by first | with_reducible rfl | (subst er_1; first | with_reducible rfl | (simp only [sa_ap, si_ap, si_sa, sa_sa, sa_3, sa_4, sa_5, sa_6, sa_7, sa_8, xk_pass, xn, up_us, up_up, c_8]; done) | (simp [sa_ap, si_ap, si_sa, sa_sa, sa_3, sa_4, sa_5, sa_6, sa_7, sa_8, xk_pass, xn, up_us, up_up, c_8]; done))), (by first | with_reducible rfl | (subst er_1; first | with_reducible rfl | (simp only [sa_ap, si_ap, si_sa, sa_sa, sa_3, sa_4, sa_5, sa_6, sa_7, sa_8, xk_pass, xn, up_us, up_up, c_8]; done) | (simp [sa_ap, si_ap, si_sa, sa_sa, sa_3, sa_4, sa_5, sa_6, sa_7, sa_8, xk_pass, xn, up_us, up_up, c_8]; done))), (by first | with_reducible rfl | (subst er_1; first | with_reducible rfl | (simp only [sa_ap, si_ap, si_sa, sa_sa, sa_3, sa_4, sa_5, sa_6, sa_7, sa_8, xk_pass, xn, up_us, up_up, c_8]; done) | (simp [sa_ap, si_ap, si_sa, sa_sa, sa_3, sa_4, sa_5, sa_6, sa_7, sa_8, xk_pass, xn, up_us, up_up, c_8]; done))), rfl, rfl⟩

set_option maxHeartbeats 400000 in
set_option maxRecDepth 100000 in
/-- pass.pass -/
theorem c_X11_passX (l : Launch) (D : va_G) (cy : Nat → ClassId) (A : Nat → Prop) (ad sad : Nat → Nat) (X M : XF) (K : KF) (p1 : Int32) (hx : ¬ xs_pass (M 101 0) p1 = 0) : Met l yX11_pass (wsA yX11_pass cX11_pass 4 (some .int)) ({ frames := 1, cells := 0, slots := 0, locals := 25 }) (PcW D cy A ad sad X M K [.ref (ad 42), .int p1]) (QiW D cy A ad (fun r X1 M1 K1 => r = 0 ∧ X1 = X ∧ M1 = si M 100 (xs_pass (M 101 0) p1) ∧ K1 = K)) 0 0 A := by
  refine met_ofW [(0, .ref (ad 42)), (1, .int p1)] (by decide +kernel) (Nat.le_of_ble_eq_true rfl) rfl ?_
  intro G C hl hR hL hD hcy hA had hsa hr hQ
  subst hD hcy hA had hsa hl
  refine g_aload_n C dX11_pass_0 0 rfl ?_
  refine g_iconst C dX11_pass_1 (v := 0) (by decide) ?_
  refine pf_X11_thrown C tw1243 dX11_pass_2 ?_
  refine g_aload_n C dX11_pass_5 0 rfl ?_
  refine g_iload_n C dX11_pass_6 1 rfl ?_
  refine g_i2l C dX11_pass_7 ?_
  refine g_lconst C dX11_pass_8 (v := 1) (by decide) ?_
  refine g_ldc2 C dX11_pass_9 tw1653 ?_
  refine g_callSiW C dX11_pass_12 (c_X11_in _ _ _ _ _ _ _ _ _ _ _ _) tw1406 tw1407 tw16 tw1408 rfl ⟨by decide +kernel, by decide +kernel, rfl⟩ ⟨rfl, rfl⟩ (by rw [hR]; decide) (Nat.le_of_ble_eq_true rfl) (by rw [hR]; decide) (fun r_1 X1 M1 K1 h_2 => ?_)
  obtain ⟨er_1, hX1, hM1, hK1⟩ := h_2
  subst X1 M1 K1
  try simp only [sa_ap, si_ap, reduceIte, Nat.reduceEqDiff] at er_1
  have c_n := er_1
  refine g_if_ne C dX11_pass_15 (tgt := 22) (by decide) (fun c_15 => ?_) (fun c_15 => ?_)
  · try simp only [sa_ap, si_ap, reduceIte, Nat.reduceEqDiff, up_us, lg_cmp_lt, lg_cmp_gt, lg_cmp_le, lg_cmp_ge] at c_15
    rw [c_n] at c_15
    refine g_iconst C dX11_pass_22 (v := 0) (by decide) ?_
    refine g_iconst C dX11_pass_23 (v := 1) (by decide) ?_
    refine g_callViW C dX11_pass_24 (c_X11_fails_0 _ _ _ _ _ _ _ _ _ _ (by rfl)) tw1412 tw1414 tp14 tw16 tw1415 (rv_X11 C) rfl ⟨by decide +kernel, by decide +kernel, rfl⟩ ⟨rfl, rfl⟩ (by rw [hR]; decide) (Nat.le_of_ble_eq_true rfl) (by rw [hR]; decide) (fun r_3 X1 M1 K1 h_4 => ?_)
    obtain ⟨rfl, hX1, hM1, hK1⟩ := h_4
    subst X1 M1 K1
    refine g_if_ne C dX11_pass_27 (tgt := 55) (by decide) (fun c_27 => absurd c_27 (by decide)) (fun c_27 => ?_)
    refine g_aload_n C dX11_pass_30 0 rfl ?_
    refine g_aload_n C dX11_pass_31 0 rfl ?_
    refine gf_X11_second C tw1244 dX11_pass_32 ?_
    refine g_iload_n C dX11_pass_35 1 rfl ?_
    refine g_iadd C dX11_pass_36 ?_
    refine g_ldcw C dX11_pass_37 tw1654 ?_
    refine g_icmp_le C dX11_pass_40 (tgt := 47) (by decide) (fun c_40 => ?_) (fun c_40 => ?_)
    · try simp only [sa_ap, si_ap, reduceIte, Nat.reduceEqDiff, up_us, lg_cmp_lt, lg_cmp_gt, lg_cmp_le, lg_cmp_ge] at c_40
      refine g_iconst C dX11_pass_47 (v := 0) (by decide) ?_
      refine g_iconst C dX11_pass_48 (v := 2) (by decide) ?_
      refine g_callViW C dX11_pass_49 (c_X11_fails_0 _ _ _ _ _ _ _ _ _ _ (by rfl)) tw1412 tw1414 tp14 tw16 tw1415 (rv_X11 C) rfl ⟨by decide +kernel, by decide +kernel, rfl⟩ ⟨rfl, rfl⟩ (by rw [hR]; decide) (Nat.le_of_ble_eq_true rfl) (by rw [hR]; decide) (fun r_5 X1 M1 K1 h_6 => ?_)
      obtain ⟨rfl, hX1, hM1, hK1⟩ := h_6
      subst X1 M1 K1
      refine g_if_eq C dX11_pass_52 (tgt := 57) (by decide) (fun c_52 => ?_) (fun c_52 => absurd (by decide) c_52)
      exact absurd (by first | with_reducible rfl | (subst er_1; first | with_reducible rfl | (simp only [sa_ap, si_ap, si_sa, sa_sa, sa_3, sa_4, sa_5, sa_6, sa_7, sa_8, xs_pass, up_us, up_up, xs_b, c_15, c_40]; done) | (simp [sa_ap, si_ap, si_sa, sa_sa, sa_3, sa_4, sa_5, sa_6, sa_7, sa_8, xs_pass, up_us, up_up, xs_b, c_15, c_40]; done))) hx
    · try simp only [sa_ap, si_ap, reduceIte, Nat.reduceEqDiff, up_us, lg_cmp_lt, lg_cmp_gt, lg_cmp_le, lg_cmp_ge] at c_40
      refine g_iconst C dX11_pass_43 (v := 1) (by decide) ?_
      refine g_goto C dX11_pass_44 (tgt := 48) (by decide) ?_
      refine g_iconst C dX11_pass_48 (v := 2) (by decide) ?_
      refine g_callViW C dX11_pass_49 (c_X11_fails_1 _ _ _ _ _ _ _ _ _ _ (by rfl) (by decide)) tw1412 tw1414 tp14 tw16 tw1415 (rv_X11 C) rfl ⟨by decide +kernel, by decide +kernel, rfl⟩ ⟨rfl, rfl⟩ (by rw [hR]; decide) (Nat.le_of_ble_eq_true rfl) (by rw [hR]; decide) (fun r_7 X1 M1 K1 h_8 => ?_)
      obtain ⟨rfl, hX1, hM1, hK1⟩ := h_8
      subst X1 M1 K1
      refine g_if_eq C dX11_pass_52 (tgt := 57) (by decide) (fun c_52 => absurd c_52 (by decide)) (fun c_52 => ?_)
      refine g_iconst C dX11_pass_55 (v := 0) (by decide) ?_
      refine g_iretW C hr hQ (Nat.le_refl _) (Nat.le_refl _) dX11_pass_56 ?_
      exact ⟨(by first | with_reducible rfl | (subst er_1; first | with_reducible rfl | (simp only [sa_ap, si_ap, si_sa, sa_sa, sa_3, sa_4, sa_5, sa_6, sa_7, sa_8, xs_pass, up_us, up_up, xs_b, c_15, c_40]; done) | (simp [sa_ap, si_ap, si_sa, sa_sa, sa_3, sa_4, sa_5, sa_6, sa_7, sa_8, xs_pass, up_us, up_up, xs_b, c_15, c_40]; done))), rfl, (by first | with_reducible rfl | (subst er_1; first | with_reducible rfl | (simp only [sa_ap, si_ap, si_sa, sa_sa, sa_3, sa_4, sa_5, sa_6, sa_7, sa_8, xs_pass, up_us, up_up, xs_b, c_15, c_40]; done) | (simp [sa_ap, si_ap, si_sa, sa_sa, sa_3, sa_4, sa_5, sa_6, sa_7, sa_8, xs_pass, up_us, up_up, xs_b, c_15, c_40]; done))), rfl⟩
  · try simp only [sa_ap, si_ap, reduceIte, Nat.reduceEqDiff, up_us, lg_cmp_lt, lg_cmp_gt, lg_cmp_le, lg_cmp_ge] at c_15
    rw [c_n] at c_15
    refine g_iconst C dX11_pass_18 (v := 1) (by decide) ?_
    refine g_goto C dX11_pass_19 (tgt := 23) (by decide) ?_
    refine g_iconst C dX11_pass_23 (v := 1) (by decide) ?_
    refine g_callViW C dX11_pass_24 (c_X11_fails_1 _ _ _ _ _ _ _ _ _ _ (by rfl) (by decide)) tw1412 tw1414 tp14 tw16 tw1415 (rv_X11 C) rfl ⟨by decide +kernel, by decide +kernel, rfl⟩ ⟨rfl, rfl⟩ (by rw [hR]; decide) (Nat.le_of_ble_eq_true rfl) (by rw [hR]; decide) (fun r_9 X1 M1 K1 h_10 => ?_)
    obtain ⟨rfl, hX1, hM1, hK1⟩ := h_10
    subst X1 M1 K1
    refine g_if_ne C dX11_pass_27 (tgt := 55) (by decide) (fun c_27 => ?_) (fun c_27 => absurd c_27 (by decide))
    refine g_iconst C dX11_pass_55 (v := 0) (by decide) ?_
    refine g_iretW C hr hQ (Nat.le_refl _) (Nat.le_refl _) dX11_pass_56 ?_
    exact ⟨(by first | with_reducible rfl | (subst er_1; first | with_reducible rfl | (simp only [sa_ap, si_ap, si_sa, sa_sa, sa_3, sa_4, sa_5, sa_6, sa_7, sa_8, xs_pass, up_us, up_up, xs_b, c_15]; done) | (simp [sa_ap, si_ap, si_sa, sa_sa, sa_3, sa_4, sa_5, sa_6, sa_7, sa_8, xs_pass, up_us, up_up, xs_b, c_15]; done))), rfl, (by first | with_reducible rfl | (subst er_1; first | with_reducible rfl | (simp only [sa_ap, si_ap, si_sa, sa_sa, sa_3, sa_4, sa_5, sa_6, sa_7, sa_8, xs_pass, up_us, up_up, xs_b, c_15]; done) | (simp [sa_ap, si_ap, si_sa, sa_sa, sa_3, sa_4, sa_5, sa_6, sa_7, sa_8, xs_pass, up_us, up_up, xs_b, c_15]; done))), rfl⟩

set_option maxHeartbeats 400000 in
set_option maxRecDepth 100000 in
/-- begin.begin -/
theorem c_X10_beginX (l : Launch) (D : va_G) (cy : Nat → ClassId) (A : Nat → Prop) (ad sad : Nat → Nat) (X M : XF) (K : KF) (p1 p2 p3 : Int32) (hx : ¬ xk_begin (X 118 0) p1 p2 p3 = 0) (hst : l.stackTraces = false) : vx_Met l yX10_begin (wsA yX10_begin cX10_begin 4 (some .int)) ({ frames := 6, cells := 1, slots := 6, locals := 82 }) (PcW D cy A ad sad X M K [.ref (ad 0), .int p1, .int p2, .int p3]) (QiW D cy A ad (fun r X1 M1 K1 => xk_begin (X 118 0) p1 p2 p3 = 0 ∧ r = 0 ∧ X1 = X ∧ M1 = M ∧ K1 = K)) (XcW D cy A ad (fun E X1 M1 K1 => ¬ xk_begin (X 118 0) p1 p2 p3 = 0 ∧ E = xn "java/lang/IllegalArgumentException" "java/lang/IllegalStateException" "java/lang/IllegalStateException" (xk_begin (X 118 0) p1 p2 p3) ∧ X1 = X ∧ M1 = M ∧ K1 = K)) 1 6 A := by
  refine vet_ofW [(0, .ref (ad 0)), (1, .int p1), (2, .int p2), (3, .int p3)] (by decide +kernel) (Nat.le_of_ble_eq_true rfl) rfl ?_
  intro G C hl hR hL hD hcy hA had hsa hr ht hQ
  subst hD hcy hA had hsa hl
  refine g_iload_n C dX10_begin_0 1 rfl ?_
  refine g_sipush C dX10_begin_1 (v := (-600)) (by decide) ?_
  refine g_bipush C dX10_begin_4 (v := (-10)) (by decide) ?_
  refine g_callSiW C dX10_begin_6 (c_X10_isWithin _ _ _ _ _ _ _ _ _ _ _ _) tw600 tw570 tw1 tw571 rfl ⟨by decide +kernel, by decide +kernel, rfl⟩ ⟨rfl, rfl⟩ (by rw [hR]; decide) (Nat.le_of_ble_eq_true rfl) (by rw [hR]; decide) (fun r_1 X1 M1 K1 h_2 => ?_)
  obtain ⟨er_1, hX1, hM1, hK1⟩ := h_2
  subst X1 M1 K1
  try simp only [sa_ap, si_ap, reduceIte, Nat.reduceEqDiff] at er_1
  refine g_if_eq C dX10_begin_9 (tgt := 34) (by decide) (fun c_9 => ?_) (fun c_9 => ?_)
  · try simp only [sa_ap, si_ap, reduceIte, Nat.reduceEqDiff, up_us, lg_cmp_lt, lg_cmp_gt, lg_cmp_le, lg_cmp_ge] at c_9
    refine g_throwS C hst ht hQ th_103 th_ot_103 tw601 tw20 (i := 3) ⟨by decide, rfl⟩ dX10_begin_34 dX10_begin_37 dX10_begin_38 dX10_begin_40 dX10_begin_43 (by rw [hR]; decide) (by rw [hR]; decide) (by decide) ?_
    exact ⟨(by first | with_reducible rfl | (subst er_1; first | with_reducible rfl | (simp only [sa_ap, si_ap, si_sa, sa_sa, sa_3, sa_4, sa_5, sa_6, sa_7, sa_8, xk_begin, xn, up_us, up_up, c_9]; done) | (simp [sa_ap, si_ap, si_sa, sa_sa, sa_3, sa_4, sa_5, sa_6, sa_7, sa_8, xk_begin, xn, up_us, up_up, c_9]; done))), (by first | with_reducible rfl | (subst er_1; first | with_reducible rfl | (simp only [sa_ap, si_ap, si_sa, sa_sa, sa_3, sa_4, sa_5, sa_6, sa_7, sa_8, xk_begin, xn, up_us, up_up, c_9]; done) | (simp [sa_ap, si_ap, si_sa, sa_sa, sa_3, sa_4, sa_5, sa_6, sa_7, sa_8, xk_begin, xn, up_us, up_up, c_9]; done))), (by first | with_reducible rfl | (subst er_1; first | with_reducible rfl | (simp only [sa_ap, si_ap, si_sa, sa_sa, sa_3, sa_4, sa_5, sa_6, sa_7, sa_8, xk_begin, xn, up_us, up_up, c_9]; done) | (simp [sa_ap, si_ap, si_sa, sa_sa, sa_3, sa_4, sa_5, sa_6, sa_7, sa_8, xk_begin, xn, up_us, up_up, c_9]; done))), rfl, rfl⟩
  · try simp only [sa_ap, si_ap, reduceIte, Nat.reduceEqDiff, up_us, lg_cmp_lt, lg_cmp_gt, lg_cmp_le, lg_cmp_ge] at c_9
    refine g_iload_n C dX10_begin_12 2 rfl ?_
    refine g_iconst C dX10_begin_13 (v := 0) (by decide) ?_
    refine g_sipush C dX10_begin_14 (v := 5000) (by decide) ?_
    refine g_callSiW C dX10_begin_17 (c_X10_isWithin _ _ _ _ _ _ _ _ _ _ _ _) tw600 tw570 tw1 tw571 rfl ⟨by decide +kernel, by decide +kernel, rfl⟩ ⟨rfl, rfl⟩ (by rw [hR]; decide) (Nat.le_of_ble_eq_true rfl) (by rw [hR]; decide) (fun r_3 X1 M1 K1 h_4 => ?_)
    obtain ⟨er_3, hX1, hM1, hK1⟩ := h_4
    subst X1 M1 K1
    try simp only [sa_ap, si_ap, reduceIte, Nat.reduceEqDiff] at er_3
    refine g_if_eq C dX10_begin_20 (tgt := 34) (by decide) (fun c_20 => ?_) (fun c_20 => ?_)
    · try simp only [sa_ap, si_ap, reduceIte, Nat.reduceEqDiff, up_us, lg_cmp_lt, lg_cmp_gt, lg_cmp_le, lg_cmp_ge] at c_20
      refine g_throwS C hst ht hQ th_103 th_ot_103 tw601 tw20 (i := 3) ⟨by decide, rfl⟩ dX10_begin_34 dX10_begin_37 dX10_begin_38 dX10_begin_40 dX10_begin_43 (by rw [hR]; decide) (by rw [hR]; decide) (by decide) ?_
      exact ⟨(by first | with_reducible rfl | (subst er_1 er_3; first | with_reducible rfl | (simp only [sa_ap, si_ap, si_sa, sa_sa, sa_3, sa_4, sa_5, sa_6, sa_7, sa_8, xk_begin, xn, up_us, up_up, c_9, c_20]; done) | (simp [sa_ap, si_ap, si_sa, sa_sa, sa_3, sa_4, sa_5, sa_6, sa_7, sa_8, xk_begin, xn, up_us, up_up, c_9, c_20]; done))), (by first | with_reducible rfl | (subst er_1 er_3; first | with_reducible rfl | (simp only [sa_ap, si_ap, si_sa, sa_sa, sa_3, sa_4, sa_5, sa_6, sa_7, sa_8, xk_begin, xn, up_us, up_up, c_9, c_20]; done) | (simp [sa_ap, si_ap, si_sa, sa_sa, sa_3, sa_4, sa_5, sa_6, sa_7, sa_8, xk_begin, xn, up_us, up_up, c_9, c_20]; done))), (by first | with_reducible rfl | (subst er_1 er_3; first | with_reducible rfl | (simp only [sa_ap, si_ap, si_sa, sa_sa, sa_3, sa_4, sa_5, sa_6, sa_7, sa_8, xk_begin, xn, up_us, up_up, c_9, c_20]; done) | (simp [sa_ap, si_ap, si_sa, sa_sa, sa_3, sa_4, sa_5, sa_6, sa_7, sa_8, xk_begin, xn, up_us, up_up, c_9, c_20]; done))), rfl, rfl⟩
    · try simp only [sa_ap, si_ap, reduceIte, Nat.reduceEqDiff, up_us, lg_cmp_lt, lg_cmp_gt, lg_cmp_le, lg_cmp_ge] at c_20
      refine g_iload_n C dX10_begin_23 3 rfl ?_
      refine g_iload_n C dX10_begin_24 2 rfl ?_
      refine g_sipush C dX10_begin_25 (v := 5000) (by decide) ?_
      refine g_callSiW C dX10_begin_28 (c_X10_isWithin _ _ _ _ _ _ _ _ _ _ _ _) tw600 tw570 tw1 tw571 rfl ⟨by decide +kernel, by decide +kernel, rfl⟩ ⟨rfl, rfl⟩ (by rw [hR]; decide) (Nat.le_of_ble_eq_true rfl) (by rw [hR]; decide) (fun r_5 X1 M1 K1 h_6 => ?_)
      obtain ⟨er_5, hX1, hM1, hK1⟩ := h_6
      subst X1 M1 K1
      try simp only [sa_ap, si_ap, reduceIte, Nat.reduceEqDiff] at er_5
      refine g_if_ne C dX10_begin_31 (tgt := 44) (by decide) (fun c_31 => ?_) (fun c_31 => ?_)
      · try simp only [sa_ap, si_ap, reduceIte, Nat.reduceEqDiff, up_us, lg_cmp_lt, lg_cmp_gt, lg_cmp_le, lg_cmp_ge] at c_31
        refine g_aload_n C dX10_begin_44 0 rfl ?_
        refine g_callViW C dX10_begin_45 (c_X10_isPlanFixed _ _ _ _ _ _ _ _ _ ) tw713 tw715 tp3 tw1 tw716 (rv_X10 C) rfl ⟨by decide +kernel, by decide +kernel, rfl⟩ ⟨rfl, rfl⟩ (by rw [hR]; decide) (Nat.le_of_ble_eq_true rfl) (by rw [hR]; decide) (fun r_7 X1 M1 K1 h_8 => ?_)
        obtain ⟨er_7, hX1, hM1, hK1⟩ := h_8
        subst X1 M1 K1
        try simp only [sa_ap, si_ap, reduceIte, Nat.reduceEqDiff] at er_7
        refine g_if_eq C dX10_begin_48 (tgt := 62) (by decide) (fun c_48 => ?_) (fun c_48 => ?_)
        · try simp only [sa_ap, si_ap, reduceIte, Nat.reduceEqDiff, up_us, lg_cmp_lt, lg_cmp_gt, lg_cmp_le, lg_cmp_ge] at c_48
          exact absurd (by first | with_reducible rfl | (subst er_1 er_3 er_5 er_7; first | with_reducible rfl | (simp only [sa_ap, si_ap, si_sa, sa_sa, sa_3, sa_4, sa_5, sa_6, sa_7, sa_8, xk_begin, xn, up_us, up_up, c_9, c_20, c_31, c_48]; done) | (simp [sa_ap, si_ap, si_sa, sa_sa, sa_3, sa_4, sa_5, sa_6, sa_7, sa_8, xk_begin, xn, up_us, up_up, c_9, c_20, c_31, c_48]; done))) hx
        · try simp only [sa_ap, si_ap, reduceIte, Nat.reduceEqDiff, up_us, lg_cmp_lt, lg_cmp_gt, lg_cmp_le, lg_cmp_ge] at c_48
          refine g_throwW C hst ht hQ th_138 th_ot_138 tw717 tw22 (i := 20) ⟨by decide, rfl⟩ dX10_begin_51 dX10_begin_54 dX10_begin_55 dX10_begin_58 dX10_begin_61 (by rw [hR]; decide) (by rw [hR]; decide) (by decide) ?_
          exact ⟨(by first | with_reducible rfl | (subst er_1 er_3 er_5 er_7; first | with_reducible rfl | (simp only [sa_ap, si_ap, si_sa, sa_sa, sa_3, sa_4, sa_5, sa_6, sa_7, sa_8, xk_begin, xn, up_us, up_up, c_9, c_20, c_31, c_48]; done) | (simp [sa_ap, si_ap, si_sa, sa_sa, sa_3, sa_4, sa_5, sa_6, sa_7, sa_8, xk_begin, xn, up_us, up_up, c_9, c_20, c_31, c_48]; done))), (by first | with_reducible rfl | (subst er_1 er_3 er_5 er_7; first | with_reducible rfl | (simp only [sa_ap, si_ap, si_sa, sa_sa, sa_3, sa_4, sa_5, sa_6, sa_7, sa_8, xk_begin, xn, up_us, up_up, c_9, c_20, c_31, c_48]; done) | (simp [sa_ap, si_ap, si_sa, sa_sa, sa_3, sa_4, sa_5, sa_6, sa_7, sa_8, xk_begin, xn, up_us, up_up, c_9, c_20, c_31, c_48]; done))), (by first | with_reducible rfl | (subst er_1 er_3 er_5 er_7; first | with_reducible rfl | (simp only [sa_ap, si_ap, si_sa, sa_sa, sa_3, sa_4, sa_5, sa_6, sa_7, sa_8, xk_begin, xn, up_us, up_up, c_9, c_20, c_31, c_48]; done) | (simp [sa_ap, si_ap, si_sa, sa_sa, sa_3, sa_4, sa_5, sa_6, sa_7, sa_8, xk_begin, xn, up_us, up_up, c_9, c_20, c_31, c_48]; done))), rfl, rfl⟩
      · try simp only [sa_ap, si_ap, reduceIte, Nat.reduceEqDiff, up_us, lg_cmp_lt, lg_cmp_gt, lg_cmp_le, lg_cmp_ge] at c_31
        refine g_throwS C hst ht hQ th_103 th_ot_103 tw601 tw20 (i := 3) ⟨by decide, rfl⟩ dX10_begin_34 dX10_begin_37 dX10_begin_38 dX10_begin_40 dX10_begin_43 (by rw [hR]; decide) (by rw [hR]; decide) (by decide) ?_
        exact ⟨(by first | with_reducible rfl | (subst er_1 er_3 er_5; first | with_reducible rfl | (simp only [sa_ap, si_ap, si_sa, sa_sa, sa_3, sa_4, sa_5, sa_6, sa_7, sa_8, xk_begin, xn, up_us, up_up, c_9, c_20, c_31]; done) | (simp [sa_ap, si_ap, si_sa, sa_sa, sa_3, sa_4, sa_5, sa_6, sa_7, sa_8, xk_begin, xn, up_us, up_up, c_9, c_20, c_31]; done))), (by first | with_reducible rfl | (subst er_1 er_3 er_5; first | with_reducible rfl | (simp only [sa_ap, si_ap, si_sa, sa_sa, sa_3, sa_4, sa_5, sa_6, sa_7, sa_8, xk_begin, xn, up_us, up_up, c_9, c_20, c_31]; done) | (simp [sa_ap, si_ap, si_sa, sa_sa, sa_3, sa_4, sa_5, sa_6, sa_7, sa_8, xk_begin, xn, up_us, up_up, c_9, c_20, c_31]; done))), (by first | with_reducible rfl | (subst er_1 er_3 er_5; first | with_reducible rfl | (simp only [sa_ap, si_ap, si_sa, sa_sa, sa_3, sa_4, sa_5, sa_6, sa_7, sa_8, xk_begin, xn, up_us, up_up, c_9, c_20, c_31]; done) | (simp [sa_ap, si_ap, si_sa, sa_sa, sa_3, sa_4, sa_5, sa_6, sa_7, sa_8, xk_begin, xn, up_us, up_up, c_9, c_20, c_31]; done))), rfl, rfl⟩

set_option maxHeartbeats 400000 in
set_option maxRecDepth 100000 in
/-- recycle.recycle -/
theorem c_X10_recycleX (l : Launch) (D : va_G) (cy : Nat → ClassId) (A : Nat → Prop) (ad sad : Nat → Nat) (X M : XF) (K : KF) (p1 : Int32) (z5 : Nat) (hz5 : X 103 0 = nI z5) (h5 : z5 ≤ 6) (hx : ¬ xk_rec (X 14) z5 (X 118 0) (X 106 0) p1 = 0) (hst : l.stackTraces = false) : vx_Met l yX10_recycle (wsA yX10_recycle cX10_recycle 2 (some .int)) ({ frames := 6, cells := 1, slots := 6, locals := 82 }) (PcW D cy A ad sad X M K [.ref (ad 0), .int p1]) (QiW D cy A ad (fun r X1 M1 K1 => xk_rec (X 14) z5 (X 118 0) (X 106 0) p1 = 0 ∧ r = 0 ∧ X1 = X ∧ M1 = M ∧ K1 = K)) (XcW D cy A ad (fun E X1 M1 K1 => ¬ xk_rec (X 14) z5 (X 118 0) (X 106 0) p1 = 0 ∧ E = xn "java/lang/IndexOutOfBoundsException" "java/lang/UnsupportedOperationException" "java/lang/UnsupportedOperationException" (xk_rec (X 14) z5 (X 118 0) (X 106 0) p1) ∧ X1 = X ∧ M1 = M ∧ K1 = K)) 1 6 A := by
  refine vet_ofW [(0, .ref (ad 0)), (1, .int p1)] (by decide +kernel) (Nat.le_of_ble_eq_true rfl) rfl ?_
  intro G C hl hR hL hD hcy hA had hsa hr ht hQ
  subst hD hcy hA had hsa hl
  refine g_iload_n C dX10_recycle_0 1 rfl ?_
  refine g_aload_n C dX10_recycle_1 0 rfl ?_
  refine gf_X10_marks C tw320 dX10_recycle_2 ?_
  refine gf_X5_size C tw109 dX10_recycle_5 ?_
  refine g_topi hz5 ?_
  refine g_callSiW C dX10_recycle_8 (c_X10_isBelow _ _ _ _ _ _ _ _ _ _ _) tw596 tw597 tw1 tw598 rfl ⟨by decide +kernel, by decide +kernel, rfl⟩ ⟨rfl, rfl⟩ (by rw [hR]; decide) (Nat.le_of_ble_eq_true rfl) (by rw [hR]; decide) (fun r_1 X1 M1 K1 h_2 => ?_)
  obtain ⟨er_1, hX1, hM1, hK1⟩ := h_2
  subst X1 M1 K1
  try simp only [sa_ap, si_ap, reduceIte, Nat.reduceEqDiff] at er_1
  refine g_if_ne C dX10_recycle_11 (tgt := 25) (by decide) (fun c_11 => ?_) (fun c_11 => ?_)
  · try simp only [sa_ap, si_ap, reduceIte, Nat.reduceEqDiff, up_us, lg_cmp_lt, lg_cmp_gt, lg_cmp_le, lg_cmp_ge] at c_11
    obtain ⟨j, hj, rfl⟩ := bel_ix (p := p1) (s := nI z5) (n := z5) rfl (by omega) (by rw [← er_1]; exact c_11)
    have c_clj : (nI j).toNatClampNeg = j := nI_clamp (by omega)
    refine g_aload_n C dX10_recycle_25 0 rfl ?_
    refine g_callViW C dX10_recycle_26 (c_X10_isCountOn _ _ _ _ _ _ _ _ _ ) tw362 tw364 tp0 tw1 tw365 (rv_X10 C) rfl ⟨by decide +kernel, by decide +kernel, rfl⟩ ⟨rfl, rfl⟩ (by rw [hR]; decide) (Nat.le_of_ble_eq_true rfl) (by rw [hR]; decide) (fun r_3 X1 M1 K1 h_4 => ?_)
    obtain ⟨er_3, hX1, hM1, hK1⟩ := h_4
    subst X1 M1 K1
    try simp only [sa_ap, si_ap, reduceIte, Nat.reduceEqDiff] at er_3
    refine g_if_eq C dX10_recycle_29 (tgt := 51) (by decide) (fun c_29 => ?_) (fun c_29 => ?_)
    · try simp only [sa_ap, si_ap, reduceIte, Nat.reduceEqDiff, up_us, lg_cmp_lt, lg_cmp_gt, lg_cmp_le, lg_cmp_ge] at c_29
      refine g_throwW C hst ht hQ th_170 th_ot_170 tw817 tw27 (i := 22) ⟨by decide, rfl⟩ dX10_recycle_51 dX10_recycle_54 dX10_recycle_55 dX10_recycle_58 dX10_recycle_61 (by rw [hR]; decide) (by rw [hR]; decide) (by decide) ?_
      exact ⟨(by first | with_reducible rfl | (subst er_1 er_3; first | with_reducible rfl | (simp only [sa_ap, si_ap, si_sa, sa_sa, sa_3, sa_4, sa_5, sa_6, sa_7, sa_8, xk_rec, xn, up_us, up_up, c_11, c_clj, c_29]; done) | (simp [sa_ap, si_ap, si_sa, sa_sa, sa_3, sa_4, sa_5, sa_6, sa_7, sa_8, xk_rec, xn, up_us, up_up, c_11, c_clj, c_29]; done))), (by first | with_reducible rfl | (subst er_1 er_3; first | with_reducible rfl | (simp only [sa_ap, si_ap, si_sa, sa_sa, sa_3, sa_4, sa_5, sa_6, sa_7, sa_8, xk_rec, xn, up_us, up_up, c_11, c_clj, c_29]; done) | (simp [sa_ap, si_ap, si_sa, sa_sa, sa_3, sa_4, sa_5, sa_6, sa_7, sa_8, xk_rec, xn, up_us, up_up, c_11, c_clj, c_29]; done))), (by first | with_reducible rfl | (subst er_1 er_3; first | with_reducible rfl | (simp only [sa_ap, si_ap, si_sa, sa_sa, sa_3, sa_4, sa_5, sa_6, sa_7, sa_8, xk_rec, xn, up_us, up_up, c_11, c_clj, c_29]; done) | (simp [sa_ap, si_ap, si_sa, sa_sa, sa_3, sa_4, sa_5, sa_6, sa_7, sa_8, xk_rec, xn, up_us, up_up, c_11, c_clj, c_29]; done))), rfl, rfl⟩
    · try simp only [sa_ap, si_ap, reduceIte, Nat.reduceEqDiff, up_us, lg_cmp_lt, lg_cmp_gt, lg_cmp_le, lg_cmp_ge] at c_29
      refine g_aload_n C dX10_recycle_32 0 rfl ?_
      refine gf_X10_countdown C tw325 dX10_recycle_33 ?_
      refine gf_X1_at C tw212 dX10_recycle_36 ?_
      refine g_aload_n C dX10_recycle_39 0 rfl ?_
      refine gf_X10_marks C tw320 dX10_recycle_40 ?_
      refine gf_X5_count C tw105 dX10_recycle_43 ?_
      refine g_iload_n C dX10_recycle_46 1 rfl ?_
      refine al_14 C (by omega) dX10_recycle_47 ?_
      refine g_icmp_gt C dX10_recycle_48 (tgt := 62) (by decide) (fun c_48 => ?_) (fun c_48 => ?_)
      · try simp only [sa_ap, si_ap, reduceIte, Nat.reduceEqDiff, up_us, lg_cmp_lt, lg_cmp_gt, lg_cmp_le, lg_cmp_ge] at c_48
        exact absurd (by first | with_reducible rfl | (subst er_1 er_3; first | with_reducible rfl | (simp only [sa_ap, si_ap, si_sa, sa_sa, sa_3, sa_4, sa_5, sa_6, sa_7, sa_8, xk_rec, xn, up_us, up_up, c_11, c_clj, c_29, c_48]; done) | (simp [sa_ap, si_ap, si_sa, sa_sa, sa_3, sa_4, sa_5, sa_6, sa_7, sa_8, xk_rec, xn, up_us, up_up, c_11, c_clj, c_29, c_48]; done))) hx
      · try simp only [sa_ap, si_ap, reduceIte, Nat.reduceEqDiff, up_us, lg_cmp_lt, lg_cmp_gt, lg_cmp_le, lg_cmp_ge] at c_48
        refine g_throwW C hst ht hQ th_170 th_ot_170 tw817 tw27 (i := 22) ⟨by decide, rfl⟩ dX10_recycle_51 dX10_recycle_54 dX10_recycle_55 dX10_recycle_58 dX10_recycle_61 (by rw [hR]; decide) (by rw [hR]; decide) (by decide) ?_
        exact ⟨(by first | with_reducible rfl | (subst er_1 er_3; first | with_reducible rfl | (simp only [sa_ap, si_ap, si_sa, sa_sa, sa_3, sa_4, sa_5, sa_6, sa_7, sa_8, xk_rec, xn, up_us, up_up, c_11, c_clj, c_29, c_48]; done) | (simp [sa_ap, si_ap, si_sa, sa_sa, sa_3, sa_4, sa_5, sa_6, sa_7, sa_8, xk_rec, xn, up_us, up_up, c_11, c_clj, c_29, c_48]; done))), (by first | with_reducible rfl | (subst er_1 er_3; first | with_reducible rfl | (simp only [sa_ap, si_ap, si_sa, sa_sa, sa_3, sa_4, sa_5, sa_6, sa_7, sa_8, xk_rec, xn, up_us, up_up, c_11, c_clj, c_29, c_48]; done) | (simp [sa_ap, si_ap, si_sa, sa_sa, sa_3, sa_4, sa_5, sa_6, sa_7, sa_8, xk_rec, xn, up_us, up_up, c_11, c_clj, c_29, c_48]; done))), (by first | with_reducible rfl | (subst er_1 er_3; first | with_reducible rfl | (simp only [sa_ap, si_ap, si_sa, sa_sa, sa_3, sa_4, sa_5, sa_6, sa_7, sa_8, xk_rec, xn, up_us, up_up, c_11, c_clj, c_29, c_48]; done) | (simp [sa_ap, si_ap, si_sa, sa_sa, sa_3, sa_4, sa_5, sa_6, sa_7, sa_8, xk_rec, xn, up_us, up_up, c_11, c_clj, c_29, c_48]; done))), rfl, rfl⟩
  · try simp only [sa_ap, si_ap, reduceIte, Nat.reduceEqDiff, up_us, lg_cmp_lt, lg_cmp_gt, lg_cmp_le, lg_cmp_ge] at c_11
    refine g_throwW C hst ht hQ th_146 th_ot_146 tw768 tw23 (i := 21) ⟨by decide, rfl⟩ dX10_recycle_14 dX10_recycle_17 dX10_recycle_18 dX10_recycle_21 dX10_recycle_24 (by rw [hR]; decide) (by rw [hR]; decide) (by decide) ?_
    exact ⟨(by first | with_reducible rfl | (subst er_1; first | with_reducible rfl | (simp only [sa_ap, si_ap, si_sa, sa_sa, sa_3, sa_4, sa_5, sa_6, sa_7, sa_8, xk_rec, xn, up_us, up_up, c_11]; done) | (simp [sa_ap, si_ap, si_sa, sa_sa, sa_3, sa_4, sa_5, sa_6, sa_7, sa_8, xk_rec, xn, up_us, up_up, c_11]; done))), (by first | with_reducible rfl | (subst er_1; first | with_reducible rfl | (simp only [sa_ap, si_ap, si_sa, sa_sa, sa_3, sa_4, sa_5, sa_6, sa_7, sa_8, xk_rec, xn, up_us, up_up, c_11]; done) | (simp [sa_ap, si_ap, si_sa, sa_sa, sa_3, sa_4, sa_5, sa_6, sa_7, sa_8, xk_rec, xn, up_us, up_up, c_11]; done))), (by first | with_reducible rfl | (subst er_1; first | with_reducible rfl | (simp only [sa_ap, si_ap, si_sa, sa_sa, sa_3, sa_4, sa_5, sa_6, sa_7, sa_8, xk_rec, xn, up_us, up_up, c_11]; done) | (simp [sa_ap, si_ap, si_sa, sa_sa, sa_3, sa_4, sa_5, sa_6, sa_7, sa_8, xk_rec, xn, up_us, up_up, c_11]; done))), rfl, rfl⟩

set_option maxHeartbeats 400000 in
set_option maxRecDepth 100000 in
/-- begin.begin -/
theorem c_X11_beginX (l : Launch) (D : va_G) (cy : Nat → ClassId) (A : Nat → Prop) (ad sad : Nat → Nat) (X M : XF) (K : KF) (p1 p2 p3 : Int32) (hx : ¬ xs_begin (M 102 0) p1 p2 p3 = 0) : Met l yX11_begin (wsA yX11_begin cX11_begin 5 (some .int)) ({ frames := 1, cells := 0, slots := 0, locals := 25 }) (PcW D cy A ad sad X M K [.ref (ad 42), .int p1, .int p2, .int p3]) (QiW D cy A ad (fun r X1 M1 K1 => r = 0 ∧ X1 = X ∧ M1 = si M 100 (xs_begin (M 102 0) p1 p2 p3) ∧ K1 = K)) 0 0 A := by
  refine met_ofW [(0, .ref (ad 42)), (1, .int p1), (2, .int p2), (3, .int p3)] (by decide +kernel) (Nat.le_of_ble_eq_true rfl) rfl ?_
  intro G C hl hR hL hD hcy hA had hsa hr hQ
  subst hD hcy hA had hsa hl
  refine g_aload_n C dX11_begin_0 0 rfl ?_
  refine g_iconst C dX11_begin_1 (v := 0) (by decide) ?_
  refine pf_X11_thrown C tw1243 dX11_begin_2 ?_
  refine g_aload_n C dX11_begin_5 0 rfl ?_
  refine g_iload_n C dX11_begin_6 1 rfl ?_
  refine g_i2l C dX11_begin_7 ?_
  refine g_ldc2 C dX11_begin_8 tw1433 ?_
  refine g_ldc2 C dX11_begin_11 tw1625 ?_
  refine g_callSiW C dX11_begin_14 (c_X11_in _ _ _ _ _ _ _ _ _ _ _ _) tw1406 tw1407 tw16 tw1408 rfl ⟨by decide +kernel, by decide +kernel, rfl⟩ ⟨rfl, rfl⟩ (by rw [hR]; decide) (Nat.le_of_ble_eq_true rfl) (by rw [hR]; decide) (fun r_1 X1 M1 K1 h_2 => ?_)
  obtain ⟨er_1, hX1, hM1, hK1⟩ := h_2
  subst X1 M1 K1
  try simp only [sa_ap, si_ap, reduceIte, Nat.reduceEqDiff] at er_1
  refine g_if_eq C dX11_begin_17 (tgt := 45) (by decide) (fun c_17 => ?_) (fun c_17 => ?_)
  · try simp only [sa_ap, si_ap, reduceIte, Nat.reduceEqDiff, up_us, lg_cmp_lt, lg_cmp_gt, lg_cmp_le, lg_cmp_ge] at c_17
    refine g_iconst C dX11_begin_45 (v := 1) (by decide) ?_
    refine g_goto C dX11_begin_46 (tgt := 50) (by decide) ?_
    refine g_iconst C dX11_begin_50 (v := 1) (by decide) ?_
    refine g_callViW C dX11_begin_51 (c_X11_fails_1 _ _ _ _ _ _ _ _ _ _ (by rfl) (by decide)) tw1412 tw1414 tp14 tw16 tw1415 (rv_X11 C) rfl ⟨by decide +kernel, by decide +kernel, rfl⟩ ⟨rfl, rfl⟩ (by rw [hR]; decide) (Nat.le_of_ble_eq_true rfl) (by rw [hR]; decide) (fun r_3 X1 M1 K1 h_4 => ?_)
    obtain ⟨rfl, hX1, hM1, hK1⟩ := h_4
    subst X1 M1 K1
    refine g_if_ne C dX11_begin_54 (tgt := 84) (by decide) (fun c_54 => ?_) (fun c_54 => absurd c_54 (by decide))
    refine g_iconst C dX11_begin_84 (v := 0) (by decide) ?_
    refine g_iretW C hr hQ (Nat.le_refl _) (Nat.le_refl _) dX11_begin_85 ?_
    exact ⟨(by first | with_reducible rfl | (subst er_1; first | with_reducible rfl | (simp only [sa_ap, si_ap, si_sa, sa_sa, sa_3, sa_4, sa_5, sa_6, sa_7, sa_8, xs_begin, up_us, up_up, xs_b, xs_go, c_17]; done) | (simp [sa_ap, si_ap, si_sa, sa_sa, sa_3, sa_4, sa_5, sa_6, sa_7, sa_8, xs_begin, up_us, up_up, xs_b, xs_go, c_17]; done))), rfl, (by first | with_reducible rfl | (subst er_1; first | with_reducible rfl | (simp only [sa_ap, si_ap, si_sa, sa_sa, sa_3, sa_4, sa_5, sa_6, sa_7, sa_8, xs_begin, up_us, up_up, xs_b, xs_go, c_17]; done) | (simp [sa_ap, si_ap, si_sa, sa_sa, sa_3, sa_4, sa_5, sa_6, sa_7, sa_8, xs_begin, up_us, up_up, xs_b, xs_go, c_17]; done))), rfl⟩
  · try simp only [sa_ap, si_ap, reduceIte, Nat.reduceEqDiff, up_us, lg_cmp_lt, lg_cmp_gt, lg_cmp_le, lg_cmp_ge] at c_17
    refine g_iload_n C dX11_begin_20 2 rfl ?_
    refine g_i2l C dX11_begin_21 ?_
    refine g_lconst C dX11_begin_22 (v := 0) (by decide) ?_
    refine g_ldc2 C dX11_begin_23 tw1626 ?_
    refine g_callSiW C dX11_begin_26 (c_X11_in _ _ _ _ _ _ _ _ _ _ _ _) tw1406 tw1407 tw16 tw1408 rfl ⟨by decide +kernel, by decide +kernel, rfl⟩ ⟨rfl, rfl⟩ (by rw [hR]; decide) (Nat.le_of_ble_eq_true rfl) (by rw [hR]; decide) (fun r_5 X1 M1 K1 h_6 => ?_)
    obtain ⟨er_5, hX1, hM1, hK1⟩ := h_6
    subst X1 M1 K1
    try simp only [sa_ap, si_ap, reduceIte, Nat.reduceEqDiff] at er_5
    refine g_if_eq C dX11_begin_29 (tgt := 45) (by decide) (fun c_29 => ?_) (fun c_29 => ?_)
    · try simp only [sa_ap, si_ap, reduceIte, Nat.reduceEqDiff, up_us, lg_cmp_lt, lg_cmp_gt, lg_cmp_le, lg_cmp_ge] at c_29
      refine g_iconst C dX11_begin_45 (v := 1) (by decide) ?_
      refine g_goto C dX11_begin_46 (tgt := 50) (by decide) ?_
      refine g_iconst C dX11_begin_50 (v := 1) (by decide) ?_
      refine g_callViW C dX11_begin_51 (c_X11_fails_1 _ _ _ _ _ _ _ _ _ _ (by rfl) (by decide)) tw1412 tw1414 tp14 tw16 tw1415 (rv_X11 C) rfl ⟨by decide +kernel, by decide +kernel, rfl⟩ ⟨rfl, rfl⟩ (by rw [hR]; decide) (Nat.le_of_ble_eq_true rfl) (by rw [hR]; decide) (fun r_7 X1 M1 K1 h_8 => ?_)
      obtain ⟨rfl, hX1, hM1, hK1⟩ := h_8
      subst X1 M1 K1
      refine g_if_ne C dX11_begin_54 (tgt := 84) (by decide) (fun c_54 => ?_) (fun c_54 => absurd c_54 (by decide))
      refine g_iconst C dX11_begin_84 (v := 0) (by decide) ?_
      refine g_iretW C hr hQ (Nat.le_refl _) (Nat.le_refl _) dX11_begin_85 ?_
      exact ⟨(by first | with_reducible rfl | (subst er_1 er_5; first | with_reducible rfl | (simp only [sa_ap, si_ap, si_sa, sa_sa, sa_3, sa_4, sa_5, sa_6, sa_7, sa_8, xs_begin, up_us, up_up, xs_b, xs_go, c_17, c_29]; done) | (simp [sa_ap, si_ap, si_sa, sa_sa, sa_3, sa_4, sa_5, sa_6, sa_7, sa_8, xs_begin, up_us, up_up, xs_b, xs_go, c_17, c_29]; done))), rfl, (by first | with_reducible rfl | (subst er_1 er_5; first | with_reducible rfl | (simp only [sa_ap, si_ap, si_sa, sa_sa, sa_3, sa_4, sa_5, sa_6, sa_7, sa_8, xs_begin, up_us, up_up, xs_b, xs_go, c_17, c_29]; done) | (simp [sa_ap, si_ap, si_sa, sa_sa, sa_3, sa_4, sa_5, sa_6, sa_7, sa_8, xs_begin, up_us, up_up, xs_b, xs_go, c_17, c_29]; done))), rfl⟩
    · try simp only [sa_ap, si_ap, reduceIte, Nat.reduceEqDiff, up_us, lg_cmp_lt, lg_cmp_gt, lg_cmp_le, lg_cmp_ge] at c_29
      refine g_iload_n C dX11_begin_32 3 rfl ?_
      refine g_i2l C dX11_begin_33 ?_
      refine g_iload_n C dX11_begin_34 2 rfl ?_
      refine g_i2l C dX11_begin_35 ?_
      refine g_ldc2 C dX11_begin_36 tw1626 ?_
      refine g_callSiW C dX11_begin_39 (c_X11_in _ _ _ _ _ _ _ _ _ _ _ _) tw1406 tw1407 tw16 tw1408 rfl ⟨by decide +kernel, by decide +kernel, rfl⟩ ⟨rfl, rfl⟩ (by rw [hR]; decide) (Nat.le_of_ble_eq_true rfl) (by rw [hR]; decide) (fun r_9 X1 M1 K1 h_10 => ?_)
      obtain ⟨er_9, hX1, hM1, hK1⟩ := h_10
      subst X1 M1 K1
      try simp only [sa_ap, si_ap, reduceIte, Nat.reduceEqDiff] at er_9
      refine g_if_ne C dX11_begin_42 (tgt := 49) (by decide) (fun c_42 => ?_) (fun c_42 => ?_)
      · try simp only [sa_ap, si_ap, reduceIte, Nat.reduceEqDiff, up_us, lg_cmp_lt, lg_cmp_gt, lg_cmp_le, lg_cmp_ge] at c_42
        refine g_iconst C dX11_begin_49 (v := 0) (by decide) ?_
        refine g_iconst C dX11_begin_50 (v := 1) (by decide) ?_
        refine g_callViW C dX11_begin_51 (c_X11_fails_0 _ _ _ _ _ _ _ _ _ _ (by rfl)) tw1412 tw1414 tp14 tw16 tw1415 (rv_X11 C) rfl ⟨by decide +kernel, by decide +kernel, rfl⟩ ⟨rfl, rfl⟩ (by rw [hR]; decide) (Nat.le_of_ble_eq_true rfl) (by rw [hR]; decide) (fun r_11 X1 M1 K1 h_12 => ?_)
        obtain ⟨rfl, hX1, hM1, hK1⟩ := h_12
        subst X1 M1 K1
        refine g_if_ne C dX11_begin_54 (tgt := 84) (by decide) (fun c_54 => absurd c_54 (by decide)) (fun c_54 => ?_)
        refine g_aload_n C dX11_begin_57 0 rfl ?_
        refine g_aload_n C dX11_begin_58 0 rfl ?_
        refine g_callViW C dX11_begin_59 (c_X11_isCounting _ _ _ _ _ _ _ _ _ ) tw1436 tw1438 tp15 tw16 tw1439 (rv_X11 C) rfl ⟨by decide +kernel, by decide +kernel, rfl⟩ ⟨rfl, rfl⟩ (by rw [hR]; decide) (Nat.le_of_ble_eq_true rfl) (by rw [hR]; decide) (fun r_13 X1 M1 K1 h_14 => ?_)
        obtain ⟨er_13, hX1, hM1, hK1⟩ := h_14
        subst X1 M1 K1
        try simp only [sa_ap, si_ap, reduceIte, Nat.reduceEqDiff] at er_13
        refine g_if_ne C dX11_begin_62 (tgt := 72) (by decide) (fun c_62 => ?_) (fun c_62 => ?_)
        · try simp only [sa_ap, si_ap, reduceIte, Nat.reduceEqDiff, up_us, lg_cmp_lt, lg_cmp_gt, lg_cmp_le, lg_cmp_ge] at c_62
          refine g_iconst C dX11_begin_72 (v := 1) (by decide) ?_
          refine g_goto C dX11_begin_73 (tgt := 77) (by decide) ?_
          refine g_iconst C dX11_begin_77 (v := 2) (by decide) ?_
          refine g_callViW C dX11_begin_78 (c_X11_fails_1 _ _ _ _ _ _ _ _ _ _ (by rfl) (by decide)) tw1412 tw1414 tp14 tw16 tw1415 (rv_X11 C) rfl ⟨by decide +kernel, by decide +kernel, rfl⟩ ⟨rfl, rfl⟩ (by rw [hR]; decide) (Nat.le_of_ble_eq_true rfl) (by rw [hR]; decide) (fun r_15 X1 M1 K1 h_16 => ?_)
          obtain ⟨rfl, hX1, hM1, hK1⟩ := h_16
          subst X1 M1 K1
          refine g_if_eq C dX11_begin_81 (tgt := 86) (by decide) (fun c_81 => absurd c_81 (by decide)) (fun c_81 => ?_)
          refine g_iconst C dX11_begin_84 (v := 0) (by decide) ?_
          refine g_iretW C hr hQ (Nat.le_refl _) (Nat.le_refl _) dX11_begin_85 ?_
          exact ⟨(by first | with_reducible rfl | (subst er_1 er_5 er_9 er_13; first | with_reducible rfl | (simp only [sa_ap, si_ap, si_sa, sa_sa, sa_3, sa_4, sa_5, sa_6, sa_7, sa_8, xs_begin, up_us, up_up, xs_b, xs_go, c_17, c_29, c_42, c_62]; done) | (simp [sa_ap, si_ap, si_sa, sa_sa, sa_3, sa_4, sa_5, sa_6, sa_7, sa_8, xs_begin, up_us, up_up, xs_b, xs_go, c_17, c_29, c_42, c_62]; done))), rfl, (by first | with_reducible rfl | (subst er_1 er_5 er_9 er_13; first | with_reducible rfl | (simp only [sa_ap, si_ap, si_sa, sa_sa, sa_3, sa_4, sa_5, sa_6, sa_7, sa_8, xs_begin, up_us, up_up, xs_b, xs_go, c_17, c_29, c_42, c_62]; done) | (simp [sa_ap, si_ap, si_sa, sa_sa, sa_3, sa_4, sa_5, sa_6, sa_7, sa_8, xs_begin, up_us, up_up, xs_b, xs_go, c_17, c_29, c_42, c_62]; done))), rfl⟩
        · try simp only [sa_ap, si_ap, reduceIte, Nat.reduceEqDiff, up_us, lg_cmp_lt, lg_cmp_gt, lg_cmp_le, lg_cmp_ge] at c_62
          refine g_aload_n C dX11_begin_65 0 rfl ?_
          refine g_callViW C dX11_begin_66 (c_X11_hasLeft _ _ _ _ _ _ _ _ _ ) tw1440 tw1442 tp16 tw16 tw1443 (rv_X11 C) rfl ⟨by decide +kernel, by decide +kernel, rfl⟩ ⟨rfl, rfl⟩ (by rw [hR]; decide) (Nat.le_of_ble_eq_true rfl) (by rw [hR]; decide) (fun r_17 X1 M1 K1 h_18 => ?_)
          obtain ⟨er_17, hX1, hM1, hK1⟩ := h_18
          subst X1 M1 K1
          try simp only [sa_ap, si_ap, reduceIte, Nat.reduceEqDiff] at er_17
          refine g_if_eq C dX11_begin_69 (tgt := 76) (by decide) (fun c_69 => ?_) (fun c_69 => ?_)
          · try simp only [sa_ap, si_ap, reduceIte, Nat.reduceEqDiff, up_us, lg_cmp_lt, lg_cmp_gt, lg_cmp_le, lg_cmp_ge] at c_69
            refine g_iconst C dX11_begin_76 (v := 0) (by decide) ?_
            refine g_iconst C dX11_begin_77 (v := 2) (by decide) ?_
            refine g_callViW C dX11_begin_78 (c_X11_fails_0 _ _ _ _ _ _ _ _ _ _ (by rfl)) tw1412 tw1414 tp14 tw16 tw1415 (rv_X11 C) rfl ⟨by decide +kernel, by decide +kernel, rfl⟩ ⟨rfl, rfl⟩ (by rw [hR]; decide) (Nat.le_of_ble_eq_true rfl) (by rw [hR]; decide) (fun r_19 X1 M1 K1 h_20 => ?_)
            obtain ⟨rfl, hX1, hM1, hK1⟩ := h_20
            subst X1 M1 K1
            refine g_if_eq C dX11_begin_81 (tgt := 86) (by decide) (fun c_81 => ?_) (fun c_81 => absurd (by decide) c_81)
            exact absurd (by first | with_reducible rfl | (subst er_1 er_5 er_9 er_13 er_17; first | with_reducible rfl | (simp only [sa_ap, si_ap, si_sa, sa_sa, sa_3, sa_4, sa_5, sa_6, sa_7, sa_8, xs_begin, up_us, up_up, xs_b, xs_go, c_17, c_29, c_42, c_62, c_69]; done) | (simp [sa_ap, si_ap, si_sa, sa_sa, sa_3, sa_4, sa_5, sa_6, sa_7, sa_8, xs_begin, up_us, up_up, xs_b, xs_go, c_17, c_29, c_42, c_62, c_69]; done))) hx
          · try simp only [sa_ap, si_ap, reduceIte, Nat.reduceEqDiff, up_us, lg_cmp_lt, lg_cmp_gt, lg_cmp_le, lg_cmp_ge] at c_69
            refine g_iconst C dX11_begin_72 (v := 1) (by decide) ?_
            refine g_goto C dX11_begin_73 (tgt := 77) (by decide) ?_
            refine g_iconst C dX11_begin_77 (v := 2) (by decide) ?_
            refine g_callViW C dX11_begin_78 (c_X11_fails_1 _ _ _ _ _ _ _ _ _ _ (by rfl) (by decide)) tw1412 tw1414 tp14 tw16 tw1415 (rv_X11 C) rfl ⟨by decide +kernel, by decide +kernel, rfl⟩ ⟨rfl, rfl⟩ (by rw [hR]; decide) (Nat.le_of_ble_eq_true rfl) (by rw [hR]; decide) (fun r_21 X1 M1 K1 h_22 => ?_)
            obtain ⟨rfl, hX1, hM1, hK1⟩ := h_22
            subst X1 M1 K1
            refine g_if_eq C dX11_begin_81 (tgt := 86) (by decide) (fun c_81 => absurd c_81 (by decide)) (fun c_81 => ?_)
            refine g_iconst C dX11_begin_84 (v := 0) (by decide) ?_
            refine g_iretW C hr hQ (Nat.le_refl _) (Nat.le_refl _) dX11_begin_85 ?_
            exact ⟨(by first | with_reducible rfl | (subst er_1 er_5 er_9 er_13 er_17; first | with_reducible rfl | (simp only [sa_ap, si_ap, si_sa, sa_sa, sa_3, sa_4, sa_5, sa_6, sa_7, sa_8, xs_begin, up_us, up_up, xs_b, xs_go, c_17, c_29, c_42, c_62, c_69]; done) | (simp [sa_ap, si_ap, si_sa, sa_sa, sa_3, sa_4, sa_5, sa_6, sa_7, sa_8, xs_begin, up_us, up_up, xs_b, xs_go, c_17, c_29, c_42, c_62, c_69]; done))), rfl, (by first | with_reducible rfl | (subst er_1 er_5 er_9 er_13 er_17; first | with_reducible rfl | (simp only [sa_ap, si_ap, si_sa, sa_sa, sa_3, sa_4, sa_5, sa_6, sa_7, sa_8, xs_begin, up_us, up_up, xs_b, xs_go, c_17, c_29, c_42, c_62, c_69]; done) | (simp [sa_ap, si_ap, si_sa, sa_sa, sa_3, sa_4, sa_5, sa_6, sa_7, sa_8, xs_begin, up_us, up_up, xs_b, xs_go, c_17, c_29, c_42, c_62, c_69]; done))), rfl⟩
      · try simp only [sa_ap, si_ap, reduceIte, Nat.reduceEqDiff, up_us, lg_cmp_lt, lg_cmp_gt, lg_cmp_le, lg_cmp_ge] at c_42
        refine g_iconst C dX11_begin_45 (v := 1) (by decide) ?_
        refine g_goto C dX11_begin_46 (tgt := 50) (by decide) ?_
        refine g_iconst C dX11_begin_50 (v := 1) (by decide) ?_
        refine g_callViW C dX11_begin_51 (c_X11_fails_1 _ _ _ _ _ _ _ _ _ _ (by rfl) (by decide)) tw1412 tw1414 tp14 tw16 tw1415 (rv_X11 C) rfl ⟨by decide +kernel, by decide +kernel, rfl⟩ ⟨rfl, rfl⟩ (by rw [hR]; decide) (Nat.le_of_ble_eq_true rfl) (by rw [hR]; decide) (fun r_23 X1 M1 K1 h_24 => ?_)
        obtain ⟨rfl, hX1, hM1, hK1⟩ := h_24
        subst X1 M1 K1
        refine g_if_ne C dX11_begin_54 (tgt := 84) (by decide) (fun c_54 => ?_) (fun c_54 => absurd c_54 (by decide))
        refine g_iconst C dX11_begin_84 (v := 0) (by decide) ?_
        refine g_iretW C hr hQ (Nat.le_refl _) (Nat.le_refl _) dX11_begin_85 ?_
        exact ⟨(by first | with_reducible rfl | (subst er_1 er_5 er_9; first | with_reducible rfl | (simp only [sa_ap, si_ap, si_sa, sa_sa, sa_3, sa_4, sa_5, sa_6, sa_7, sa_8, xs_begin, up_us, up_up, xs_b, xs_go, c_17, c_29, c_42]; done) | (simp [sa_ap, si_ap, si_sa, sa_sa, sa_3, sa_4, sa_5, sa_6, sa_7, sa_8, xs_begin, up_us, up_up, xs_b, xs_go, c_17, c_29, c_42]; done))), rfl, (by first | with_reducible rfl | (subst er_1 er_5 er_9; first | with_reducible rfl | (simp only [sa_ap, si_ap, si_sa, sa_sa, sa_3, sa_4, sa_5, sa_6, sa_7, sa_8, xs_begin, up_us, up_up, xs_b, xs_go, c_17, c_29, c_42]; done) | (simp [sa_ap, si_ap, si_sa, sa_sa, sa_3, sa_4, sa_5, sa_6, sa_7, sa_8, xs_begin, up_us, up_up, xs_b, xs_go, c_17, c_29, c_42]; done))), rfl⟩

set_option maxHeartbeats 400000 in
set_option maxRecDepth 100000 in
/-- recycle.recycle -/
theorem c_X11_recycleX (l : Launch) (D : va_G) (cy : Nat → ClassId) (A : Nat → Prop) (ad sad : Nat → Nat) (X M : XF) (K : KF) (p1 : Int32) (z5 : Nat) (hz5 : M 114 0 = nI z5) (h5 : z5 ≤ 6) (hx : ¬ xs_rec (M 53) (M 114 0) (M 102 0) (M 104 0) p1 = 0) : Met l yX11_recycle (wsA yX11_recycle cX11_recycle 4 (some .int)) ({ frames := 1, cells := 0, slots := 0, locals := 25 }) (PcW D cy A ad sad X M K [.ref (ad 42), .int p1]) (QiW D cy A ad (fun r X1 M1 K1 => r = 0 ∧ X1 = X ∧ M1 = si M 100 (xs_rec (M 53) (M 114 0) (M 102 0) (M 104 0) p1) ∧ K1 = K)) 0 0 A := by
  refine met_ofW [(0, .ref (ad 42)), (1, .int p1)] (by decide +kernel) (Nat.le_of_ble_eq_true rfl) rfl ?_
  intro G C hl hR hL hD hcy hA had hsa hr hQ
  subst hD hcy hA had hsa hl
  refine g_aload_n C dX11_recycle_0 0 rfl ?_
  refine g_iconst C dX11_recycle_1 (v := 0) (by decide) ?_
  refine pf_X11_thrown C tw1243 dX11_recycle_2 ?_
  refine g_aload_n C dX11_recycle_5 0 rfl ?_
  refine g_iload_n C dX11_recycle_6 1 rfl ?_
  refine g_i2l C dX11_recycle_7 ?_
  refine g_lconst C dX11_recycle_8 (v := 0) (by decide) ?_
  refine g_aload_n C dX11_recycle_9 0 rfl ?_
  refine gf_X11_marks C tw1269 dX11_recycle_10 ?_
  refine g_topi rfl ?_
  refine g_iconst C dX11_recycle_13 (v := 1) (by decide) ?_
  refine g_isub C dX11_recycle_14 ?_
  refine g_i2l C dX11_recycle_15 ?_
  refine g_callSiW C dX11_recycle_16 (c_X11_in _ _ _ _ _ _ _ _ _ _ _ _) tw1406 tw1407 tw16 tw1408 rfl ⟨by decide +kernel, by decide +kernel, rfl⟩ ⟨rfl, rfl⟩ (by rw [hR]; decide) (Nat.le_of_ble_eq_true rfl) (by rw [hR]; decide) (fun r_1 X1 M1 K1 h_2 => ?_)
  obtain ⟨er_1, hX1, hM1, hK1⟩ := h_2
  subst X1 M1 K1
  try simp only [sa_ap, si_ap, reduceIte, Nat.reduceEqDiff] at er_1
  have c_n := er_1
  refine g_if_ne C dX11_recycle_19 (tgt := 26) (by decide) (fun c_19 => ?_) (fun c_19 => ?_)
  · try simp only [sa_ap, si_ap, reduceIte, Nat.reduceEqDiff, up_us, lg_cmp_lt, lg_cmp_gt, lg_cmp_le, lg_cmp_ge] at c_19
    rw [c_n] at c_19
    obtain ⟨j, hj, rfl⟩ := md_no_ix (p := p1) (s := M 114 0) hz5 (by omega) (by unfold md_no; exact if_neg c_19)
    have c_clj : (nI j).toNatClampNeg = j := nI_clamp (by omega)
    refine g_iconst C dX11_recycle_26 (v := 0) (by decide) ?_
    refine g_iconst C dX11_recycle_27 (v := 1) (by decide) ?_
    refine g_callViW C dX11_recycle_28 (c_X11_fails_0 _ _ _ _ _ _ _ _ _ _ (by rfl)) tw1412 tw1414 tp14 tw16 tw1415 (rv_X11 C) rfl ⟨by decide +kernel, by decide +kernel, rfl⟩ ⟨rfl, rfl⟩ (by rw [hR]; decide) (Nat.le_of_ble_eq_true rfl) (by rw [hR]; decide) (fun r_3 X1 M1 K1 h_4 => ?_)
    obtain ⟨rfl, hX1, hM1, hK1⟩ := h_4
    subst X1 M1 K1
    refine g_if_ne C dX11_recycle_31 (tgt := 67) (by decide) (fun c_31 => absurd c_31 (by decide)) (fun c_31 => ?_)
    refine g_aload_n C dX11_recycle_34 0 rfl ?_
    refine g_aload_n C dX11_recycle_35 0 rfl ?_
    refine g_callViW C dX11_recycle_36 (c_X11_isCounting _ _ _ _ _ _ _ _ _ ) tw1436 tw1438 tp15 tw16 tw1439 (rv_X11 C) rfl ⟨by decide +kernel, by decide +kernel, rfl⟩ ⟨rfl, rfl⟩ (by rw [hR]; decide) (Nat.le_of_ble_eq_true rfl) (by rw [hR]; decide) (fun r_5 X1 M1 K1 h_6 => ?_)
    obtain ⟨er_5, hX1, hM1, hK1⟩ := h_6
    subst X1 M1 K1
    try simp only [sa_ap, si_ap, reduceIte, Nat.reduceEqDiff] at er_5
    refine g_if_eq C dX11_recycle_39 (tgt := 55) (by decide) (fun c_39 => ?_) (fun c_39 => ?_)
    · try simp only [sa_ap, si_ap, reduceIte, Nat.reduceEqDiff, up_us, lg_cmp_lt, lg_cmp_gt, lg_cmp_le, lg_cmp_ge] at c_39
      refine g_iconst C dX11_recycle_55 (v := 1) (by decide) ?_
      refine g_goto C dX11_recycle_56 (tgt := 60) (by decide) ?_
      refine g_iconst C dX11_recycle_60 (v := 2) (by decide) ?_
      refine g_callViW C dX11_recycle_61 (c_X11_fails_1 _ _ _ _ _ _ _ _ _ _ (by rfl) (by decide)) tw1412 tw1414 tp14 tw16 tw1415 (rv_X11 C) rfl ⟨by decide +kernel, by decide +kernel, rfl⟩ ⟨rfl, rfl⟩ (by rw [hR]; decide) (Nat.le_of_ble_eq_true rfl) (by rw [hR]; decide) (fun r_7 X1 M1 K1 h_8 => ?_)
      obtain ⟨rfl, hX1, hM1, hK1⟩ := h_8
      subst X1 M1 K1
      refine g_if_eq C dX11_recycle_64 (tgt := 69) (by decide) (fun c_64 => absurd c_64 (by decide)) (fun c_64 => ?_)
      refine g_iconst C dX11_recycle_67 (v := 0) (by decide) ?_
      refine g_iretW C hr hQ (Nat.le_refl _) (Nat.le_refl _) dX11_recycle_68 ?_
      exact ⟨(by first | with_reducible rfl | (subst er_1 er_5; first | with_reducible rfl | (simp only [sa_ap, si_ap, si_sa, sa_sa, sa_3, sa_4, sa_5, sa_6, sa_7, sa_8, xs_rec, up_us, up_up, xs_b, md_no, c_19, c_clj, c_39]; done) | (simp [sa_ap, si_ap, si_sa, sa_sa, sa_3, sa_4, sa_5, sa_6, sa_7, sa_8, xs_rec, up_us, up_up, xs_b, md_no, c_19, c_clj, c_39]; done))), rfl, (by first | with_reducible rfl | (subst er_1 er_5; first | with_reducible rfl | (simp only [sa_ap, si_ap, si_sa, sa_sa, sa_3, sa_4, sa_5, sa_6, sa_7, sa_8, xs_rec, up_us, up_up, xs_b, md_no, c_19, c_clj, c_39]; done) | (simp [sa_ap, si_ap, si_sa, sa_sa, sa_3, sa_4, sa_5, sa_6, sa_7, sa_8, xs_rec, up_us, up_up, xs_b, md_no, c_19, c_clj, c_39]; done))), rfl⟩
    · try simp only [sa_ap, si_ap, reduceIte, Nat.reduceEqDiff, up_us, lg_cmp_lt, lg_cmp_gt, lg_cmp_le, lg_cmp_ge] at c_39
      refine g_aload_n C dX11_recycle_42 0 rfl ?_
      refine gf_X11_count C tw1247 dX11_recycle_43 ?_
      refine g_aload_n C dX11_recycle_46 0 rfl ?_
      refine gf_X11_markCount C tw1270 dX11_recycle_47 ?_
      refine g_iload_n C dX11_recycle_50 1 rfl ?_
      refine al_53 C (by omega) dX11_recycle_51 ?_
      refine g_icmp_gt C dX11_recycle_52 (tgt := 59) (by decide) (fun c_52 => ?_) (fun c_52 => ?_)
      · try simp only [sa_ap, si_ap, reduceIte, Nat.reduceEqDiff, up_us, lg_cmp_lt, lg_cmp_gt, lg_cmp_le, lg_cmp_ge] at c_52
        refine g_iconst C dX11_recycle_59 (v := 0) (by decide) ?_
        refine g_iconst C dX11_recycle_60 (v := 2) (by decide) ?_
        refine g_callViW C dX11_recycle_61 (c_X11_fails_0 _ _ _ _ _ _ _ _ _ _ (by rfl)) tw1412 tw1414 tp14 tw16 tw1415 (rv_X11 C) rfl ⟨by decide +kernel, by decide +kernel, rfl⟩ ⟨rfl, rfl⟩ (by rw [hR]; decide) (Nat.le_of_ble_eq_true rfl) (by rw [hR]; decide) (fun r_9 X1 M1 K1 h_10 => ?_)
        obtain ⟨rfl, hX1, hM1, hK1⟩ := h_10
        subst X1 M1 K1
        refine g_if_eq C dX11_recycle_64 (tgt := 69) (by decide) (fun c_64 => ?_) (fun c_64 => absurd (by decide) c_64)
        exact absurd (by first | with_reducible rfl | (subst er_1 er_5; first | with_reducible rfl | (simp only [sa_ap, si_ap, si_sa, sa_sa, sa_3, sa_4, sa_5, sa_6, sa_7, sa_8, xs_rec, up_us, up_up, xs_b, md_no, c_19, c_clj, c_39, c_52]; done) | (simp [sa_ap, si_ap, si_sa, sa_sa, sa_3, sa_4, sa_5, sa_6, sa_7, sa_8, xs_rec, up_us, up_up, xs_b, md_no, c_19, c_clj, c_39, c_52]; done))) hx
      · try simp only [sa_ap, si_ap, reduceIte, Nat.reduceEqDiff, up_us, lg_cmp_lt, lg_cmp_gt, lg_cmp_le, lg_cmp_ge] at c_52
        refine g_iconst C dX11_recycle_55 (v := 1) (by decide) ?_
        refine g_goto C dX11_recycle_56 (tgt := 60) (by decide) ?_
        refine g_iconst C dX11_recycle_60 (v := 2) (by decide) ?_
        refine g_callViW C dX11_recycle_61 (c_X11_fails_1 _ _ _ _ _ _ _ _ _ _ (by rfl) (by decide)) tw1412 tw1414 tp14 tw16 tw1415 (rv_X11 C) rfl ⟨by decide +kernel, by decide +kernel, rfl⟩ ⟨rfl, rfl⟩ (by rw [hR]; decide) (Nat.le_of_ble_eq_true rfl) (by rw [hR]; decide) (fun r_11 X1 M1 K1 h_12 => ?_)
        obtain ⟨rfl, hX1, hM1, hK1⟩ := h_12
        subst X1 M1 K1
        refine g_if_eq C dX11_recycle_64 (tgt := 69) (by decide) (fun c_64 => absurd c_64 (by decide)) (fun c_64 => ?_)
        refine g_iconst C dX11_recycle_67 (v := 0) (by decide) ?_
        refine g_iretW C hr hQ (Nat.le_refl _) (Nat.le_refl _) dX11_recycle_68 ?_
        exact ⟨(by first | with_reducible rfl | (subst er_1 er_5; first | with_reducible rfl | (simp only [sa_ap, si_ap, si_sa, sa_sa, sa_3, sa_4, sa_5, sa_6, sa_7, sa_8, xs_rec, up_us, up_up, xs_b, md_no, c_19, c_clj, c_39, c_52]; done) | (simp [sa_ap, si_ap, si_sa, sa_sa, sa_3, sa_4, sa_5, sa_6, sa_7, sa_8, xs_rec, up_us, up_up, xs_b, md_no, c_19, c_clj, c_39, c_52]; done))), rfl, (by first | with_reducible rfl | (subst er_1 er_5; first | with_reducible rfl | (simp only [sa_ap, si_ap, si_sa, sa_sa, sa_3, sa_4, sa_5, sa_6, sa_7, sa_8, xs_rec, up_us, up_up, xs_b, md_no, c_19, c_clj, c_39, c_52]; done) | (simp [sa_ap, si_ap, si_sa, sa_sa, sa_3, sa_4, sa_5, sa_6, sa_7, sa_8, xs_rec, up_us, up_up, xs_b, md_no, c_19, c_clj, c_39, c_52]; done))), rfl⟩
  · try simp only [sa_ap, si_ap, reduceIte, Nat.reduceEqDiff, up_us, lg_cmp_lt, lg_cmp_gt, lg_cmp_le, lg_cmp_ge] at c_19
    rw [c_n] at c_19
    refine g_iconst C dX11_recycle_22 (v := 1) (by decide) ?_
    refine g_goto C dX11_recycle_23 (tgt := 27) (by decide) ?_
    refine g_iconst C dX11_recycle_27 (v := 1) (by decide) ?_
    refine g_callViW C dX11_recycle_28 (c_X11_fails_1 _ _ _ _ _ _ _ _ _ _ (by rfl) (by decide)) tw1412 tw1414 tp14 tw16 tw1415 (rv_X11 C) rfl ⟨by decide +kernel, by decide +kernel, rfl⟩ ⟨rfl, rfl⟩ (by rw [hR]; decide) (Nat.le_of_ble_eq_true rfl) (by rw [hR]; decide) (fun r_13 X1 M1 K1 h_14 => ?_)
    obtain ⟨rfl, hX1, hM1, hK1⟩ := h_14
    subst X1 M1 K1
    refine g_if_ne C dX11_recycle_31 (tgt := 67) (by decide) (fun c_31 => ?_) (fun c_31 => absurd c_31 (by decide))
    refine g_iconst C dX11_recycle_67 (v := 0) (by decide) ?_
    refine g_iretW C hr hQ (Nat.le_refl _) (Nat.le_refl _) dX11_recycle_68 ?_
    exact ⟨(by first | with_reducible rfl | (subst er_1; first | with_reducible rfl | (simp only [sa_ap, si_ap, si_sa, sa_sa, sa_3, sa_4, sa_5, sa_6, sa_7, sa_8, xs_rec, up_us, up_up, xs_b, md_no, c_19]; done) | (simp [sa_ap, si_ap, si_sa, sa_sa, sa_3, sa_4, sa_5, sa_6, sa_7, sa_8, xs_rec, up_us, up_up, xs_b, md_no, c_19]; done))), rfl, (by first | with_reducible rfl | (subst er_1; first | with_reducible rfl | (simp only [sa_ap, si_ap, si_sa, sa_sa, sa_3, sa_4, sa_5, sa_6, sa_7, sa_8, xs_rec, up_us, up_up, xs_b, md_no, c_19]; done) | (simp [sa_ap, si_ap, si_sa, sa_sa, sa_3, sa_4, sa_5, sa_6, sa_7, sa_8, xs_rec, up_us, up_up, xs_b, md_no, c_19]; done))), rfl⟩

set_option maxHeartbeats 1000000 in
set_option maxRecDepth 100000 in
theorem c_L_setTank (l : Launch) (D : va_G) (cy : Nat → ClassId) (A : Nat → Prop) (ad sad : Nat → Nat) (X M : XF) (K : KF) (p1 p2 p3 p4 : Int32) (hst : l.stackTraces = false) : Met l yL_setTank (wsH yL_setTank cL_setTank 7 (some .int) [(0, 14, 17, 13)]) ({ frames := 7, cells := 1, slots := 6, locals := 106 }) (PcL D cy A ad sad X M K [.ref (ad 0), .int p1, .int p2, .int p3, .int p4, .ref (ad 74)]) (QiW D cy A ad (fun r X1 M1 K1 => (xk_tank p1 p2 p3 p4 = 0 ∧ r = 0 ∧ X1 = sa (sa (sa (sa X 2 (upd (X 2) p1.toNatClampNeg p2)) 3 (upd (X 3) p1.toNatClampNeg p3)) 4 (upd (X 4) p1.toNatClampNeg p4)) 5 (upd (X 5) p1.toNatClampNeg (tk_min (X 5 p1.toNatClampNeg) p2)) ∧ M1 = M ∧ K1 = kO K (tk_min (X 5 p1.toNatClampNeg) p2 : Int32).toInt64) ∨ (¬ xk_tank p1 p2 p3 p4 = 0 ∧ r = xk_tank p1 p2 p3 p4 ∧ X1 = X ∧ M1 = M ∧ K1 = K))) 1 6 A := by
  refine met_ofL [(0, .ref (ad 0)), (1, .int p1), (2, .int p2), (3, .int p3), (4, .int p4), (5, .ref (ad 74))] (by decide +kernel) (Nat.le_of_ble_eq_true rfl) rfl ?_
  intro G C hl hR hL hD hcy hA had hsa ht hN hr hQ
  subst hD hcy hA had hsa hl
  have hcode : xk_tank p1 p2 p3 p4 = 0 ∨ xk_tank p1 p2 p3 p4 = 1 := by
    unfold xk_tank
    repeat' split
    all_goals first | exact Or.inl rfl | exact Or.inr (rfl)
  refine g_aload C dL_setTank_0 5 rfl ?_
  refine g_iconst C dL_setTank_2 (v := 0) (by decide) ?_
  refine g_aload_n C dL_setTank_3 0 rfl ?_
  refine g_iload_n C dL_setTank_4 1 rfl ?_
  refine g_iload_n C dL_setTank_5 2 rfl ?_
  refine g_iload_n C dL_setTank_6 3 rfl ?_
  refine g_iload C dL_setTank_7 4 rfl ?_
  refine g_tryi C (c_X10_setTank _ _ _ _ _ _ _ _ _ p1 p2 p3 p4 hst) tw592 tw593 tw594 tw1 tw595 (rv_X10 C) rfl ⟨by decide +kernel, by decide +kernel, rfl⟩ ⟨rfl, rfl⟩ (by rw [hR]; exact ⟨Nat.le_of_ble_eq_true rfl, Nat.le_of_ble_eq_true rfl⟩) (Nat.le_of_ble_eq_true rfl) dL_setTank_9 (by rw [hR]; exact ⟨Nat.le_of_eq (Nat.zero_add _), Nat.le_of_eq (Nat.zero_add _)⟩) (fun E X1 M1 K1 hx => ?_) (fun r X1 M1 K1 hx => ?_)
  · obtain ⟨hc, hE, hX1, hM1, hK1⟩ := hx
    subst hE
    subst X1 M1 K1
    have h1 := hcode.resolve_left hc
    have e1 : xn "java/lang/IllegalArgumentException" "java/lang/IllegalArgumentException" "java/lang/IllegalArgumentException" (xk_tank p1 p2 p3 p4) = "java/lang/IllegalArgumentException" := by rw [h1]; decide
    rw [e1]
    refine g_catch C [] ⟨0, 14, 17, 13⟩ [] ht (fun z hz => absurd hz List.not_mem_nil) (by decide) (by decide) tw591 (by decide +kernel) rfl (fun q => ?_)
    refine g_astore C dL_setTank_17 (L' := [(6, .ref q), (0, .ref (gad G 0)), (1, .int p1), (2, .int p2), (3, .int p3), (4, .int p4), (5, .ref (gad G 74))]) rfl (by rw [hL]; decide) ?_
    refine g_iconst C dL_setTank_19 (v := 1) (by decide) ?_
    exact g_iretW C hr hQ (Nat.le_of_eq (Nat.zero_add _)) (Nat.le_of_eq (Nat.zero_add _)) dL_setTank_20 (Or.inr ⟨hc, h1.symm, rfl, rfl, rfl⟩)
  · obtain ⟨hc, er, hX1, hM1, hK1⟩ := hx
    subst X1 M1 K1
    refine g_i2l C dL_setTank_12 ?_
    refine as_74 C dL_setTank_13 ?_
    refine g_goto C dL_setTank_14 (tgt := 21) (by decide) ?_
    refine g_iconst C dL_setTank_21 (v := 0) (by decide) ?_
    exact g_iretW C hr hQ (Nat.le_of_eq (Nat.zero_add _)) (Nat.le_of_eq (Nat.zero_add _)) dL_setTank_22 (Or.inl ⟨hc, rfl, rfl, rfl, by rw [er]⟩)

set_option maxHeartbeats 1000000 in
set_option maxRecDepth 100000 in
theorem c_L_setValve (l : Launch) (D : va_G) (cy : Nat → ClassId) (A : Nat → Prop) (ad sad : Nat → Nat) (X M : XF) (K : KF) (p1 p2 : Int32) (h2 : isBo p2) (hb : ∀ i : Nat, isBo (X 6 i)) (hst : l.stackTraces = false) : Met l yL_setValve (wsH yL_setValve cL_setValve 5 (some .int) [(0, 17, 20, 13)]) ({ frames := 7, cells := 1, slots := 6, locals := 105 }) (PcL D cy A ad sad X M K [.ref (ad 0), .int p1, .int p2, .ref (ad 74)]) (QiW D cy A ad (fun r X1 M1 K1 => (xk_b p1 3 = 0 ∧ r = 0 ∧ X1 = sa X 6 (upd (X 6) p1.toNatClampNeg p2) ∧ M1 = M ∧ K1 = kO K (if (X 6 p1.toNatClampNeg : Int32) = 0 then 0 else 1)) ∨ (¬ xk_b p1 3 = 0 ∧ r = xk_b p1 3 ∧ X1 = X ∧ M1 = M ∧ K1 = K))) 1 6 A := by
  refine met_ofL [(0, .ref (ad 0)), (1, .int p1), (2, .int p2), (3, .ref (ad 74))] (by decide +kernel) (Nat.le_of_ble_eq_true rfl) rfl ?_
  intro G C hl hR hL hD hcy hA had hsa ht hN hr hQ
  subst hD hcy hA had hsa hl
  have hcode : xk_b p1 3 = 0 ∨ xk_b p1 3 = 1 := by
    unfold xk_b
    repeat' split
    all_goals first | exact Or.inl rfl | exact Or.inr (rfl)
  refine g_aload_n C dL_setValve_0 3 rfl ?_
  refine g_iconst C dL_setValve_1 (v := 0) (by decide) ?_
  refine g_aload_n C dL_setValve_2 0 rfl ?_
  refine g_iload_n C dL_setValve_3 1 rfl ?_
  refine g_iload_n C dL_setValve_4 2 rfl ?_
  refine g_tryi C (c_X10_setValve _ _ _ _ _ _ _ _ _ p1 p2 h2 hb hst) tw680 tw681 tw682 tw1 tw683 (rv_X10 C) rfl ⟨by decide +kernel, by decide +kernel, rfl⟩ ⟨rfl, rfl⟩ (by rw [hR]; exact ⟨Nat.le_of_ble_eq_true rfl, Nat.le_of_ble_eq_true rfl⟩) (Nat.le_of_ble_eq_true rfl) dL_setValve_5 (by rw [hR]; exact ⟨Nat.le_of_eq (Nat.zero_add _), Nat.le_of_eq (Nat.zero_add _)⟩) (fun E X1 M1 K1 hx => ?_) (fun r X1 M1 K1 hx => ?_)
  · obtain ⟨hc, hE, hX1, hM1, hK1⟩ := hx
    subst hE
    subst X1 M1 K1
    have h1 := hcode.resolve_left hc
    have e1 : xn "java/lang/IllegalArgumentException" "java/lang/IllegalArgumentException" "java/lang/IllegalArgumentException" (xk_b p1 3) = "java/lang/IllegalArgumentException" := by rw [h1]; decide
    rw [e1]
    refine g_catch C [] ⟨0, 17, 20, 13⟩ [] ht (fun z hz => absurd hz List.not_mem_nil) (by decide) (by decide) tw591 (by decide +kernel) rfl (fun q => ?_)
    refine g_astore C dL_setValve_20 (L' := [(4, .ref q), (0, .ref (gad G 0)), (1, .int p1), (2, .int p2), (3, .ref (gad G 74))]) rfl (by rw [hL]; decide) ?_
    refine g_iconst C dL_setValve_22 (v := 1) (by decide) ?_
    exact g_iretW C hr hQ (Nat.le_of_eq (Nat.zero_add _)) (Nat.le_of_eq (Nat.zero_add _)) dL_setValve_23 (Or.inr ⟨hc, h1.symm, rfl, rfl, rfl⟩)
  · obtain ⟨hc, er, hX1, hM1, hK1⟩ := hx
    subst X1 M1 K1
    refine g_if_eq C dL_setValve_8 (tgt := 15) (by decide) (fun c => ?_) (fun c => ?_)
    · refine g_lconst C dL_setValve_15 (v := 0) (by decide) ?_
      refine as_74 C dL_setValve_16 ?_
      refine g_goto C dL_setValve_17 (tgt := 24) (by decide) ?_
      refine g_iconst C dL_setValve_24 (v := 0) (by decide) ?_
      exact g_iretW C hr hQ (Nat.le_of_eq (Nat.zero_add _)) (Nat.le_of_eq (Nat.zero_add _)) dL_setValve_25 (Or.inl ⟨hc, rfl, rfl, rfl, by rw [← er, if_pos c]⟩)
    · refine g_lconst C dL_setValve_11 (v := 1) (by decide) ?_
      refine g_goto C dL_setValve_12 (tgt := 16) (by decide) ?_
      refine as_74 C dL_setValve_16 ?_
      refine g_goto C dL_setValve_17 (tgt := 24) (by decide) ?_
      refine g_iconst C dL_setValve_24 (v := 0) (by decide) ?_
      exact g_iretW C hr hQ (Nat.le_of_eq (Nat.zero_add _)) (Nat.le_of_eq (Nat.zero_add _)) dL_setValve_25 (Or.inl ⟨hc, rfl, rfl, rfl, by rw [← er, if_neg c]⟩)

set_option maxHeartbeats 1000000 in
set_option maxRecDepth 100000 in
theorem c_L_drain (l : Launch) (D : va_G) (cy : Nat → ClassId) (A : Nat → Prop) (ad sad : Nat → Nat) (X M : XF) (K : KF) (p1 p2 : Int32) (hst : l.stackTraces = false) : Met l yL_drain (wsH yL_drain cL_drain 5 (some .int) [(0, 10, 13, 13)]) ({ frames := 7, cells := 1, slots := 6, locals := 104 }) (PcL D cy A ad sad X M K [.ref (ad 0), .int p1, .int p2, .ref (ad 74)]) (QiW D cy A ad (fun r X1 M1 K1 => (xk_drain p1 p2 = 0 ∧ r = 0 ∧ X1 = sa X 5 (upd (X 5) p1.toNatClampNeg (X 5 p1.toNatClampNeg - tk_min (X 5 p1.toNatClampNeg) p2)) ∧ M1 = M ∧ K1 = kO K (tk_min (X 5 p1.toNatClampNeg) p2 : Int32).toInt64) ∨ (¬ xk_drain p1 p2 = 0 ∧ r = xk_drain p1 p2 ∧ X1 = X ∧ M1 = M ∧ K1 = K))) 1 6 A := by
  refine met_ofL [(0, .ref (ad 0)), (1, .int p1), (2, .int p2), (3, .ref (ad 74))] (by decide +kernel) (Nat.le_of_ble_eq_true rfl) rfl ?_
  intro G C hl hR hL hD hcy hA had hsa ht hN hr hQ
  subst hD hcy hA had hsa hl
  have hcode : xk_drain p1 p2 = 0 ∨ xk_drain p1 p2 = 1 := by
    unfold xk_drain
    repeat' split
    all_goals first | exact Or.inl rfl | exact Or.inr (rfl)
  refine g_aload_n C dL_drain_0 3 rfl ?_
  refine g_iconst C dL_drain_1 (v := 0) (by decide) ?_
  refine g_aload_n C dL_drain_2 0 rfl ?_
  refine g_iload_n C dL_drain_3 1 rfl ?_
  refine g_iload_n C dL_drain_4 2 rfl ?_
  refine g_tryi C (c_X10_drain _ _ _ _ _ _ _ _ _ p1 p2 hst) tw688 tw689 tw690 tw1 tw691 (rv_X10 C) rfl ⟨by decide +kernel, by decide +kernel, rfl⟩ ⟨rfl, rfl⟩ (by rw [hR]; exact ⟨Nat.le_of_ble_eq_true rfl, Nat.le_of_ble_eq_true rfl⟩) (Nat.le_of_ble_eq_true rfl) dL_drain_5 (by rw [hR]; exact ⟨Nat.le_of_eq (Nat.zero_add _), Nat.le_of_eq (Nat.zero_add _)⟩) (fun E X1 M1 K1 hx => ?_) (fun r X1 M1 K1 hx => ?_)
  · obtain ⟨hc, hE, hX1, hM1, hK1⟩ := hx
    subst hE
    subst X1 M1 K1
    have h1 := hcode.resolve_left hc
    have e1 : xn "java/lang/IllegalArgumentException" "java/lang/IllegalArgumentException" "java/lang/IllegalArgumentException" (xk_drain p1 p2) = "java/lang/IllegalArgumentException" := by rw [h1]; decide
    rw [e1]
    refine g_catch C [] ⟨0, 10, 13, 13⟩ [] ht (fun z hz => absurd hz List.not_mem_nil) (by decide) (by decide) tw591 (by decide +kernel) rfl (fun q => ?_)
    refine g_astore C dL_drain_13 (L' := [(4, .ref q), (0, .ref (gad G 0)), (1, .int p1), (2, .int p2), (3, .ref (gad G 74))]) rfl (by rw [hL]; decide) ?_
    refine g_iconst C dL_drain_15 (v := 1) (by decide) ?_
    exact g_iretW C hr hQ (Nat.le_of_eq (Nat.zero_add _)) (Nat.le_of_eq (Nat.zero_add _)) dL_drain_16 (Or.inr ⟨hc, h1.symm, rfl, rfl, rfl⟩)
  · obtain ⟨hc, er, hX1, hM1, hK1⟩ := hx
    subst X1 M1 K1
    refine g_i2l C dL_drain_8 ?_
    refine as_74 C dL_drain_9 ?_
    refine g_goto C dL_drain_10 (tgt := 17) (by decide) ?_
    refine g_iconst C dL_drain_17 (v := 0) (by decide) ?_
    exact g_iretW C hr hQ (Nat.le_of_eq (Nat.zero_add _)) (Nat.le_of_eq (Nat.zero_add _)) dL_drain_18 (Or.inl ⟨hc, rfl, rfl, rfl, by rw [er]⟩)

set_option maxHeartbeats 1000000 in
set_option maxRecDepth 100000 in
theorem c_L_inTank (l : Launch) (D : va_G) (cy : Nat → ClassId) (A : Nat → Prop) (ad sad : Nat → Nat) (X M : XF) (K : KF) (p1 : Int32) (hst : l.stackTraces = false) : Met l yL_inTank (wsH yL_inTank cL_inTank 4 (some .int) [(0, 9, 12, 13)]) ({ frames := 7, cells := 1, slots := 6, locals := 103 }) (PcL D cy A ad sad X M K [.ref (ad 0), .int p1, .ref (ad 74)]) (QiW D cy A ad (fun r X1 M1 K1 => (xk_b p1 3 = 0 ∧ r = 0 ∧ X1 = X ∧ M1 = M ∧ K1 = kO K (X 5 p1.toNatClampNeg : Int32).toInt64) ∨ (¬ xk_b p1 3 = 0 ∧ r = xk_b p1 3 ∧ X1 = X ∧ M1 = M ∧ K1 = K))) 1 6 A := by
  refine met_ofL [(0, .ref (ad 0)), (1, .int p1), (2, .ref (ad 74))] (by decide +kernel) (Nat.le_of_ble_eq_true rfl) rfl ?_
  intro G C hl hR hL hD hcy hA had hsa ht hN hr hQ
  subst hD hcy hA had hsa hl
  have hcode : xk_b p1 3 = 0 ∨ xk_b p1 3 = 1 := by
    unfold xk_b
    repeat' split
    all_goals first | exact Or.inl rfl | exact Or.inr (rfl)
  refine g_aload_n C dL_inTank_0 2 rfl ?_
  refine g_iconst C dL_inTank_1 (v := 0) (by decide) ?_
  refine g_aload_n C dL_inTank_2 0 rfl ?_
  refine g_iload_n C dL_inTank_3 1 rfl ?_
  refine g_tryi C (c_X10_inTank _ _ _ _ _ _ _ _ _ p1 hst) tw700 tw701 tw702 tw1 tw703 (rv_X10 C) rfl ⟨by decide +kernel, by decide +kernel, rfl⟩ ⟨rfl, rfl⟩ (by rw [hR]; exact ⟨Nat.le_of_ble_eq_true rfl, Nat.le_of_ble_eq_true rfl⟩) (Nat.le_of_ble_eq_true rfl) dL_inTank_4 (by rw [hR]; exact ⟨Nat.le_of_eq (Nat.zero_add _), Nat.le_of_eq (Nat.zero_add _)⟩) (fun E X1 M1 K1 hx => ?_) (fun r X1 M1 K1 hx => ?_)
  · obtain ⟨hc, hE, hX1, hM1, hK1⟩ := hx
    subst hE
    subst X1 M1 K1
    have h1 := hcode.resolve_left hc
    have e1 : xn "java/lang/IllegalArgumentException" "java/lang/IllegalArgumentException" "java/lang/IllegalArgumentException" (xk_b p1 3) = "java/lang/IllegalArgumentException" := by rw [h1]; decide
    rw [e1]
    refine g_catch C [] ⟨0, 9, 12, 13⟩ [] ht (fun z hz => absurd hz List.not_mem_nil) (by decide) (by decide) tw591 (by decide +kernel) rfl (fun q => ?_)
    refine g_astore_n C dL_inTank_12 (L' := [(3, .ref q), (0, .ref (gad G 0)), (1, .int p1), (2, .ref (gad G 74))]) rfl (by rw [hL]; decide) ?_
    refine g_iconst C dL_inTank_13 (v := 1) (by decide) ?_
    exact g_iretW C hr hQ (Nat.le_of_eq (Nat.zero_add _)) (Nat.le_of_eq (Nat.zero_add _)) dL_inTank_14 (Or.inr ⟨hc, h1.symm, rfl, rfl, rfl⟩)
  · obtain ⟨hc, er, hX1, hM1, hK1⟩ := hx
    subst X1 M1 K1
    refine g_i2l C dL_inTank_7 ?_
    refine as_74 C dL_inTank_8 ?_
    refine g_goto C dL_inTank_9 (tgt := 15) (by decide) ?_
    refine g_iconst C dL_inTank_15 (v := 0) (by decide) ?_
    exact g_iretW C hr hQ (Nat.le_of_eq (Nat.zero_add _)) (Nat.le_of_eq (Nat.zero_add _)) dL_inTank_16 (Or.inl ⟨hc, rfl, rfl, rfl, by rw [er]⟩)

set_option maxHeartbeats 1000000 in
set_option maxRecDepth 100000 in
theorem c_L_addStep (l : Launch) (D : va_G) (cy : Nat → ClassId) (A : Nat → Prop) (ad sad : Nat → Nat) (X M : XF) (K : KF) (p1 p2 : Int32) (z : Nat) (hz : X 102 0 = nI z) (hzl : z ≤ 16) (hst : l.stackTraces = false) : Met l yL_addStep (wsH yL_addStep cL_addStep 5 (some .int) [(0, 10, 13, 13), (0, 10, 17, 30)]) ({ frames := 7, cells := 1, slots := 6, locals := 104 }) (PcL D cy A ad sad X M K [.ref (ad 0), .int p1, .int p2, .ref (ad 74)]) (QiW D cy A ad (fun r X1 M1 K1 => (xk_step (nI z) (X 118 0) p1 p2 = 0 ∧ r = 0 ∧ X1 = si (sa (sa (sa X 8 (upd (X 8) z p1)) 9 (upd (X 9) z p2)) 12 (upd (X 12) z 45)) 102 (nI z + 1) ∧ M1 = M ∧ K1 = kO K (nI z : Int32).toInt64) ∨ (¬ xk_step (nI z) (X 118 0) p1 p2 = 0 ∧ r = xk_step (nI z) (X 118 0) p1 p2 ∧ X1 = X ∧ M1 = M ∧ K1 = K))) 1 6 A := by
  refine met_ofL [(0, .ref (ad 0)), (1, .int p1), (2, .int p2), (3, .ref (ad 74))] (by decide +kernel) (Nat.le_of_ble_eq_true rfl) rfl ?_
  intro G C hl hR hL hD hcy hA had hsa ht hN hr hQ
  subst hD hcy hA had hsa hl
  have hcode : xk_step (nI z) (X 118 0) p1 p2 = 0 ∨ xk_step (nI z) (X 118 0) p1 p2 = 1 ∨ xk_step (nI z) (X 118 0) p1 p2 = 2 := by
    unfold xk_step
    repeat' split
    all_goals first | exact Or.inl rfl | exact Or.inr (Or.inl rfl) | exact Or.inr (Or.inr (rfl))
  refine g_aload_n C dL_addStep_0 3 rfl ?_
  refine g_iconst C dL_addStep_1 (v := 0) (by decide) ?_
  refine g_aload_n C dL_addStep_2 0 rfl ?_
  refine g_iload_n C dL_addStep_3 1 rfl ?_
  refine g_iload_n C dL_addStep_4 2 rfl ?_
  refine g_tryi C (c_X10_addStep _ _ _ _ _ _ _ _ _ p1 p2 z hz hzl hst) tw708 tw709 tw710 tw1 tw711 (rv_X10 C) rfl ⟨by decide +kernel, by decide +kernel, rfl⟩ ⟨rfl, rfl⟩ (by rw [hR]; exact ⟨Nat.le_of_ble_eq_true rfl, Nat.le_of_ble_eq_true rfl⟩) (Nat.le_of_ble_eq_true rfl) dL_addStep_5 (by rw [hR]; exact ⟨Nat.le_of_eq (Nat.zero_add _), Nat.le_of_eq (Nat.zero_add _)⟩) (fun E X1 M1 K1 hx => ?_) (fun r X1 M1 K1 hx => ?_)
  · obtain ⟨hc, hE, hX1, hM1, hK1⟩ := hx
    subst hE
    subst X1 M1 K1
    rcases hcode.resolve_left hc with h1 | h1
    · have e1 : xn "java/lang/IllegalArgumentException" "java/lang/IllegalStateException" "java/lang/IllegalStateException" (xk_step (nI z) (X 118 0) p1 p2) = "java/lang/IllegalArgumentException" := by rw [h1]; decide
      rw [e1]
      refine g_catch C [] ⟨0, 10, 13, 13⟩ [⟨0, 10, 17, 30⟩] ht (fun z hz => absurd hz List.not_mem_nil) (by decide) (by decide) tw591 (by decide +kernel) rfl (fun q => ?_)
      refine g_astore C dL_addStep_13 (L' := [(4, .ref q), (0, .ref (gad G 0)), (1, .int p1), (2, .int p2), (3, .ref (gad G 74))]) rfl (by rw [hL]; decide) ?_
      refine g_iconst C dL_addStep_15 (v := 1) (by decide) ?_
      exact g_iretW C hr hQ (Nat.le_of_eq (Nat.zero_add _)) (Nat.le_of_eq (Nat.zero_add _)) dL_addStep_16 (Or.inr ⟨hc, h1.symm, rfl, rfl, rfl⟩)
    · have e1 : xn "java/lang/IllegalArgumentException" "java/lang/IllegalStateException" "java/lang/IllegalStateException" (xk_step (nI z) (X 118 0) p1 p2) = "java/lang/IllegalStateException" := by rw [h1]; decide
      rw [e1]
      refine g_catch C [⟨0, 10, 13, 13⟩] ⟨0, 10, 17, 30⟩ [] ht (fun z hz => by rw [List.mem_singleton.mp hz]; exact ⟨by decide, "java/lang/IllegalArgumentException", tw591, hN ("java/lang/IllegalStateException", "java/lang/IllegalArgumentException") (by decide)⟩) (by decide) (by decide) tw707 (by decide +kernel) rfl (fun q => ?_)
      refine g_astore C dL_addStep_17 (L' := [(4, .ref q), (0, .ref (gad G 0)), (1, .int p1), (2, .int p2), (3, .ref (gad G 74))]) rfl (by rw [hL]; decide) ?_
      refine g_iconst C dL_addStep_19 (v := 2) (by decide) ?_
      exact g_iretW C hr hQ (Nat.le_of_eq (Nat.zero_add _)) (Nat.le_of_eq (Nat.zero_add _)) dL_addStep_20 (Or.inr ⟨hc, h1.symm, rfl, rfl, rfl⟩)
  · obtain ⟨hc, er, hX1, hM1, hK1⟩ := hx
    subst X1 M1 K1
    refine g_i2l C dL_addStep_8 ?_
    refine as_74 C dL_addStep_9 ?_
    refine g_goto C dL_addStep_10 (tgt := 21) (by decide) ?_
    refine g_iconst C dL_addStep_21 (v := 0) (by decide) ?_
    exact g_iretW C hr hQ (Nat.le_of_eq (Nat.zero_add _)) (Nat.le_of_eq (Nat.zero_add _)) dL_addStep_22 (Or.inl ⟨hc, rfl, rfl, rfl, by rw [er]⟩)

set_option maxHeartbeats 1000000 in
set_option maxRecDepth 100000 in
theorem c_L_setAfter (l : Launch) (D : va_G) (cy : Nat → ClassId) (A : Nat → Prop) (ad sad : Nat → Nat) (X M : XF) (K : KF) (p1 p2 : Int32) (z : Nat) (hz : X 102 0 = nI z) (hzl : z ≤ 16) (hst : l.stackTraces = false) : Met l yL_setAfter (wsH yL_setAfter cL_setAfter 5 (some .int) [(0, 10, 13, 35), (0, 10, 17, 13), (0, 10, 21, 30)]) ({ frames := 7, cells := 1, slots := 6, locals := 104 }) (PcL D cy A ad sad X M K [.ref (ad 0), .int p1, .int p2, .ref (ad 74)]) (QiW D cy A ad (fun r X1 M1 K1 => (xk_after (nI z) (X 118 0) p1 p2 = 0 ∧ r = 0 ∧ X1 = sa X 11 (upd (X 11) p1.toNatClampNeg (X 11 p1.toNatClampNeg ||| (1 <<< (p2 &&& 31)))) ∧ M1 = M ∧ K1 = kO K (bcnt (X 11 p1.toNatClampNeg ||| (1 <<< (p2 &&& 31))) : Int32).toInt64) ∨ (¬ xk_after (nI z) (X 118 0) p1 p2 = 0 ∧ r = xk_after (nI z) (X 118 0) p1 p2 ∧ X1 = X ∧ M1 = M ∧ K1 = K))) 1 6 A := by
  refine met_ofL [(0, .ref (ad 0)), (1, .int p1), (2, .int p2), (3, .ref (ad 74))] (by decide +kernel) (Nat.le_of_ble_eq_true rfl) rfl ?_
  intro G C hl hR hL hD hcy hA had hsa ht hN hr hQ
  subst hD hcy hA had hsa hl
  have hcode : xk_after (nI z) (X 118 0) p1 p2 = 0 ∨ xk_after (nI z) (X 118 0) p1 p2 = 1 ∨ xk_after (nI z) (X 118 0) p1 p2 = 2 ∨ xk_after (nI z) (X 118 0) p1 p2 = 3 := by
    unfold xk_after
    repeat' split
    all_goals first | exact Or.inl rfl | exact Or.inr (Or.inl rfl) | exact Or.inr (Or.inr (Or.inl rfl)) | exact Or.inr (Or.inr (Or.inr (rfl)))
  refine g_aload_n C dL_setAfter_0 3 rfl ?_
  refine g_iconst C dL_setAfter_1 (v := 0) (by decide) ?_
  refine g_aload_n C dL_setAfter_2 0 rfl ?_
  refine g_iload_n C dL_setAfter_3 1 rfl ?_
  refine g_iload_n C dL_setAfter_4 2 rfl ?_
  refine g_tryi C (c_X10_setAfter _ _ _ _ _ _ _ _ _ p1 p2 z hz hzl hst) tw764 tw765 tw766 tw1 tw767 (rv_X10 C) rfl ⟨by decide +kernel, by decide +kernel, rfl⟩ ⟨rfl, rfl⟩ (by rw [hR]; exact ⟨Nat.le_of_ble_eq_true rfl, Nat.le_of_ble_eq_true rfl⟩) (Nat.le_of_ble_eq_true rfl) dL_setAfter_5 (by rw [hR]; exact ⟨Nat.le_of_eq (Nat.zero_add _), Nat.le_of_eq (Nat.zero_add _)⟩) (fun E X1 M1 K1 hx => ?_) (fun r X1 M1 K1 hx => ?_)
  · obtain ⟨hc, hE, hX1, hM1, hK1⟩ := hx
    subst hE
    subst X1 M1 K1
    rcases hcode.resolve_left hc with h1 | h1 | h1
    · have e1 : xn "java/lang/IndexOutOfBoundsException" "java/lang/IllegalArgumentException" "java/lang/IllegalStateException" (xk_after (nI z) (X 118 0) p1 p2) = "java/lang/IndexOutOfBoundsException" := by rw [h1]; decide
      rw [e1]
      refine g_catch C [] ⟨0, 10, 13, 35⟩ [⟨0, 10, 17, 13⟩, ⟨0, 10, 21, 30⟩] ht (fun z hz => absurd hz List.not_mem_nil) (by decide) (by decide) tw740 (by decide +kernel) rfl (fun q => ?_)
      refine g_astore C dL_setAfter_13 (L' := [(4, .ref q), (0, .ref (gad G 0)), (1, .int p1), (2, .int p2), (3, .ref (gad G 74))]) rfl (by rw [hL]; decide) ?_
      refine g_iconst C dL_setAfter_15 (v := 1) (by decide) ?_
      exact g_iretW C hr hQ (Nat.le_of_eq (Nat.zero_add _)) (Nat.le_of_eq (Nat.zero_add _)) dL_setAfter_16 (Or.inr ⟨hc, h1.symm, rfl, rfl, rfl⟩)
    · have e1 : xn "java/lang/IndexOutOfBoundsException" "java/lang/IllegalArgumentException" "java/lang/IllegalStateException" (xk_after (nI z) (X 118 0) p1 p2) = "java/lang/IllegalArgumentException" := by rw [h1]; decide
      rw [e1]
      refine g_catch C [⟨0, 10, 13, 35⟩] ⟨0, 10, 17, 13⟩ [⟨0, 10, 21, 30⟩] ht (fun z hz => by rw [List.mem_singleton.mp hz]; exact ⟨by decide, "java/lang/IndexOutOfBoundsException", tw740, hN ("java/lang/IllegalArgumentException", "java/lang/IndexOutOfBoundsException") (by decide)⟩) (by decide) (by decide) tw591 (by decide +kernel) rfl (fun q => ?_)
      refine g_astore C dL_setAfter_17 (L' := [(4, .ref q), (0, .ref (gad G 0)), (1, .int p1), (2, .int p2), (3, .ref (gad G 74))]) rfl (by rw [hL]; decide) ?_
      refine g_iconst C dL_setAfter_19 (v := 2) (by decide) ?_
      exact g_iretW C hr hQ (Nat.le_of_eq (Nat.zero_add _)) (Nat.le_of_eq (Nat.zero_add _)) dL_setAfter_20 (Or.inr ⟨hc, h1.symm, rfl, rfl, rfl⟩)
    · have e1 : xn "java/lang/IndexOutOfBoundsException" "java/lang/IllegalArgumentException" "java/lang/IllegalStateException" (xk_after (nI z) (X 118 0) p1 p2) = "java/lang/IllegalStateException" := by rw [h1]; decide
      rw [e1]
      refine g_catch C [⟨0, 10, 13, 35⟩, ⟨0, 10, 17, 13⟩] ⟨0, 10, 21, 30⟩ [] ht (fun z hz => (List.mem_cons.mp hz).elim (fun q => by rw [q]; exact ⟨by decide, "java/lang/IndexOutOfBoundsException", tw740, hN ("java/lang/IllegalStateException", "java/lang/IndexOutOfBoundsException") (by decide)⟩) (fun q => by rw [List.mem_singleton.mp q]; exact ⟨by decide, "java/lang/IllegalArgumentException", tw591, hN ("java/lang/IllegalStateException", "java/lang/IllegalArgumentException") (by decide)⟩)) (by decide) (by decide) tw707 (by decide +kernel) rfl (fun q => ?_)
      refine g_astore C dL_setAfter_21 (L' := [(4, .ref q), (0, .ref (gad G 0)), (1, .int p1), (2, .int p2), (3, .ref (gad G 74))]) rfl (by rw [hL]; decide) ?_
      refine g_iconst C dL_setAfter_23 (v := 3) (by decide) ?_
      exact g_iretW C hr hQ (Nat.le_of_eq (Nat.zero_add _)) (Nat.le_of_eq (Nat.zero_add _)) dL_setAfter_24 (Or.inr ⟨hc, h1.symm, rfl, rfl, rfl⟩)
  · obtain ⟨hc, er, hX1, hM1, hK1⟩ := hx
    subst X1 M1 K1
    refine g_i2l C dL_setAfter_8 ?_
    refine as_74 C dL_setAfter_9 ?_
    refine g_goto C dL_setAfter_10 (tgt := 25) (by decide) ?_
    refine g_iconst C dL_setAfter_25 (v := 0) (by decide) ?_
    exact g_iretW C hr hQ (Nat.le_of_eq (Nat.zero_add _)) (Nat.le_of_eq (Nat.zero_add _)) dL_setAfter_26 (Or.inl ⟨hc, rfl, rfl, rfl, by rw [er]⟩)

set_option maxHeartbeats 1000000 in
set_option maxRecDepth 100000 in
theorem c_L_stepState (l : Launch) (D : va_G) (cy : Nat → ClassId) (A : Nat → Prop) (ad sad : Nat → Nat) (X M : XF) (K : KF) (p1 : Int32) (z : Nat) (hz : X 102 0 = nI z) (hzl : z ≤ 16) (hc : ∀ i : Nat, isCh (X 12 i)) (hst : l.stackTraces = false) : Met l yL_stepState (wsH yL_stepState cL_stepState 4 (some .int) [(0, 9, 12, 35)]) ({ frames := 7, cells := 1, slots := 6, locals := 103 }) (PcL D cy A ad sad X M K [.ref (ad 0), .int p1, .ref (ad 74)]) (QiW D cy A ad (fun r X1 M1 K1 => (xk_b p1 (nI z) = 0 ∧ r = 0 ∧ X1 = X ∧ M1 = M ∧ K1 = kO K (X 12 p1.toNatClampNeg : Int32).toInt64) ∨ (¬ xk_b p1 (nI z) = 0 ∧ r = xk_b p1 (nI z) ∧ X1 = X ∧ M1 = M ∧ K1 = K))) 1 6 A := by
  refine met_ofL [(0, .ref (ad 0)), (1, .int p1), (2, .ref (ad 74))] (by decide +kernel) (Nat.le_of_ble_eq_true rfl) rfl ?_
  intro G C hl hR hL hD hcy hA had hsa ht hN hr hQ
  subst hD hcy hA had hsa hl
  have hcode : xk_b p1 (nI z) = 0 ∨ xk_b p1 (nI z) = 1 := by
    unfold xk_b
    repeat' split
    all_goals first | exact Or.inl rfl | exact Or.inr (rfl)
  refine g_aload_n C dL_stepState_0 2 rfl ?_
  refine g_iconst C dL_stepState_1 (v := 0) (by decide) ?_
  refine g_aload_n C dL_stepState_2 0 rfl ?_
  refine g_iload_n C dL_stepState_3 1 rfl ?_
  refine g_tryi C (c_X10_stepState _ _ _ _ _ _ _ _ _ p1 z hz hzl hc hst) tw796 tw797 tw798 tw1 tw799 (rv_X10 C) rfl ⟨by decide +kernel, by decide +kernel, rfl⟩ ⟨rfl, rfl⟩ (by rw [hR]; exact ⟨Nat.le_of_ble_eq_true rfl, Nat.le_of_ble_eq_true rfl⟩) (Nat.le_of_ble_eq_true rfl) dL_stepState_4 (by rw [hR]; exact ⟨Nat.le_of_eq (Nat.zero_add _), Nat.le_of_eq (Nat.zero_add _)⟩) (fun E X1 M1 K1 hx => ?_) (fun r X1 M1 K1 hx => ?_)
  · obtain ⟨hc, hE, hX1, hM1, hK1⟩ := hx
    subst hE
    subst X1 M1 K1
    have h1 := hcode.resolve_left hc
    have e1 : xn "java/lang/IndexOutOfBoundsException" "java/lang/IndexOutOfBoundsException" "java/lang/IndexOutOfBoundsException" (xk_b p1 (nI z)) = "java/lang/IndexOutOfBoundsException" := by rw [h1]; decide
    rw [e1]
    refine g_catch C [] ⟨0, 9, 12, 35⟩ [] ht (fun z hz => absurd hz List.not_mem_nil) (by decide) (by decide) tw740 (by decide +kernel) rfl (fun q => ?_)
    refine g_astore_n C dL_stepState_12 (L' := [(3, .ref q), (0, .ref (gad G 0)), (1, .int p1), (2, .ref (gad G 74))]) rfl (by rw [hL]; decide) ?_
    refine g_iconst C dL_stepState_13 (v := 1) (by decide) ?_
    exact g_iretW C hr hQ (Nat.le_of_eq (Nat.zero_add _)) (Nat.le_of_eq (Nat.zero_add _)) dL_stepState_14 (Or.inr ⟨hc, h1.symm, rfl, rfl, rfl⟩)
  · obtain ⟨hc, er, hX1, hM1, hK1⟩ := hx
    subst X1 M1 K1
    refine g_i2l C dL_stepState_7 ?_
    refine as_74 C dL_stepState_8 ?_
    refine g_goto C dL_stepState_9 (tgt := 15) (by decide) ?_
    refine g_iconst C dL_stepState_15 (v := 0) (by decide) ?_
    exact g_iretW C hr hQ (Nat.le_of_eq (Nat.zero_add _)) (Nat.le_of_eq (Nat.zero_add _)) dL_stepState_16 (Or.inl ⟨hc, rfl, rfl, rfl, by rw [er]⟩)

set_option maxHeartbeats 1000000 in
set_option maxRecDepth 100000 in
theorem c_L_addMark (l : Launch) (D : va_G) (cy : Nat → ClassId) (A : Nat → Prop) (ad sad : Nat → Nat) (X M : XF) (K : KF) (p1 p2 p3 : Int32) (z : Nat) (hz : X 103 0 = nI z) (hzl : z ≤ 6) (hst : l.stackTraces = false) : Met l yL_addMark (wsH yL_addMark cL_addMark 6 (some .int) [(0, 12, 15, 13), (0, 12, 19, 45), (0, 12, 23, 30)]) ({ frames := 7, cells := 1, slots := 6, locals := 105 }) (PcL D cy A ad sad X M K [.ref (ad 0), .int p1, .int p2, .int p3, .ref (ad 74)]) (QiW D cy A ad (fun r X1 M1 K1 => (xk_mark (X 14) z (X 102 0) (X 118 0) p1 p2 p3 = 0 ∧ r = 0 ∧ X1 = si (sa (sa (sa X 14 (upd (mk_sh p1 z (X 14) (X 15) (X 16)).1.1 (mk_sh p1 z (X 14) (X 15) (X 16)).2 p1)) 15 (upd (mk_sh p1 z (X 14) (X 15) (X 16)).1.2.1 (mk_sh p1 z (X 14) (X 15) (X 16)).2 p2)) 16 (upd (mk_sh p1 z (X 14) (X 15) (X 16)).1.2.2 (mk_sh p1 z (X 14) (X 15) (X 16)).2 p3)) 103 (nI z + 1) ∧ M1 = M ∧ K1 = kO K (nI z + 1 : Int32).toInt64) ∨ (¬ xk_mark (X 14) z (X 102 0) (X 118 0) p1 p2 p3 = 0 ∧ r = xk_mark (X 14) z (X 102 0) (X 118 0) p1 p2 p3 ∧ X1 = X ∧ M1 = M ∧ K1 = K))) 1 6 A := by
  refine met_ofL [(0, .ref (ad 0)), (1, .int p1), (2, .int p2), (3, .int p3), (4, .ref (ad 74))] (by decide +kernel) (Nat.le_of_ble_eq_true rfl) rfl ?_
  intro G C hl hR hL hD hcy hA had hsa ht hN hr hQ
  subst hD hcy hA had hsa hl
  have hcode : xk_mark (X 14) z (X 102 0) (X 118 0) p1 p2 p3 = 0 ∨ xk_mark (X 14) z (X 102 0) (X 118 0) p1 p2 p3 = 1 ∨ xk_mark (X 14) z (X 102 0) (X 118 0) p1 p2 p3 = 2 ∨ xk_mark (X 14) z (X 102 0) (X 118 0) p1 p2 p3 = 3 := by
    unfold xk_mark
    repeat' split
    all_goals first | exact Or.inl rfl | exact Or.inr (Or.inl rfl) | exact Or.inr (Or.inr (Or.inl rfl)) | exact Or.inr (Or.inr (Or.inr (rfl)))
  refine g_aload C dL_addMark_0 4 rfl ?_
  refine g_iconst C dL_addMark_2 (v := 0) (by decide) ?_
  refine g_aload_n C dL_addMark_3 0 rfl ?_
  refine g_iload_n C dL_addMark_4 1 rfl ?_
  refine g_iload_n C dL_addMark_5 2 rfl ?_
  refine g_iload_n C dL_addMark_6 3 rfl ?_
  refine g_tryi C (c_X10_addMark _ _ _ _ _ _ _ _ _ p1 p2 p3 z hz hzl hst) tw804 tw805 tw806 tw1 tw807 (rv_X10 C) rfl ⟨by decide +kernel, by decide +kernel, rfl⟩ ⟨rfl, rfl⟩ (by rw [hR]; exact ⟨Nat.le_of_ble_eq_true rfl, Nat.le_of_ble_eq_true rfl⟩) (Nat.le_of_ble_eq_true rfl) dL_addMark_7 (by rw [hR]; exact ⟨Nat.le_of_eq (Nat.zero_add _), Nat.le_of_eq (Nat.zero_add _)⟩) (fun E X1 M1 K1 hx => ?_) (fun r X1 M1 K1 hx => ?_)
  · obtain ⟨hc, hE, hX1, hM1, hK1⟩ := hx
    subst hE
    subst X1 M1 K1
    rcases hcode.resolve_left hc with h1 | h1 | h1
    · have e1 : xn "java/lang/IllegalArgumentException" "java/lang/UnsupportedOperationException" "java/lang/IllegalStateException" (xk_mark (X 14) z (X 102 0) (X 118 0) p1 p2 p3) = "java/lang/IllegalArgumentException" := by rw [h1]; decide
      rw [e1]
      refine g_catch C [] ⟨0, 12, 15, 13⟩ [⟨0, 12, 19, 45⟩, ⟨0, 12, 23, 30⟩] ht (fun z hz => absurd hz List.not_mem_nil) (by decide) (by decide) tw591 (by decide +kernel) rfl (fun q => ?_)
      refine g_astore C dL_addMark_15 (L' := [(5, .ref q), (0, .ref (gad G 0)), (1, .int p1), (2, .int p2), (3, .int p3), (4, .ref (gad G 74))]) rfl (by rw [hL]; decide) ?_
      refine g_iconst C dL_addMark_17 (v := 1) (by decide) ?_
      exact g_iretW C hr hQ (Nat.le_of_eq (Nat.zero_add _)) (Nat.le_of_eq (Nat.zero_add _)) dL_addMark_18 (Or.inr ⟨hc, h1.symm, rfl, rfl, rfl⟩)
    · have e1 : xn "java/lang/IllegalArgumentException" "java/lang/UnsupportedOperationException" "java/lang/IllegalStateException" (xk_mark (X 14) z (X 102 0) (X 118 0) p1 p2 p3) = "java/lang/UnsupportedOperationException" := by rw [h1]; decide
      rw [e1]
      refine g_catch C [⟨0, 12, 15, 13⟩] ⟨0, 12, 19, 45⟩ [⟨0, 12, 23, 30⟩] ht (fun z hz => by rw [List.mem_singleton.mp hz]; exact ⟨by decide, "java/lang/IllegalArgumentException", tw591, hN ("java/lang/UnsupportedOperationException", "java/lang/IllegalArgumentException") (by decide)⟩) (by decide) (by decide) tw803 (by decide +kernel) rfl (fun q => ?_)
      refine g_astore C dL_addMark_19 (L' := [(5, .ref q), (0, .ref (gad G 0)), (1, .int p1), (2, .int p2), (3, .int p3), (4, .ref (gad G 74))]) rfl (by rw [hL]; decide) ?_
      refine g_iconst C dL_addMark_21 (v := 2) (by decide) ?_
      exact g_iretW C hr hQ (Nat.le_of_eq (Nat.zero_add _)) (Nat.le_of_eq (Nat.zero_add _)) dL_addMark_22 (Or.inr ⟨hc, h1.symm, rfl, rfl, rfl⟩)
    · have e1 : xn "java/lang/IllegalArgumentException" "java/lang/UnsupportedOperationException" "java/lang/IllegalStateException" (xk_mark (X 14) z (X 102 0) (X 118 0) p1 p2 p3) = "java/lang/IllegalStateException" := by rw [h1]; decide
      rw [e1]
      refine g_catch C [⟨0, 12, 15, 13⟩, ⟨0, 12, 19, 45⟩] ⟨0, 12, 23, 30⟩ [] ht (fun z hz => (List.mem_cons.mp hz).elim (fun q => by rw [q]; exact ⟨by decide, "java/lang/IllegalArgumentException", tw591, hN ("java/lang/IllegalStateException", "java/lang/IllegalArgumentException") (by decide)⟩) (fun q => by rw [List.mem_singleton.mp q]; exact ⟨by decide, "java/lang/UnsupportedOperationException", tw803, hN ("java/lang/IllegalStateException", "java/lang/UnsupportedOperationException") (by decide)⟩)) (by decide) (by decide) tw707 (by decide +kernel) rfl (fun q => ?_)
      refine g_astore C dL_addMark_23 (L' := [(5, .ref q), (0, .ref (gad G 0)), (1, .int p1), (2, .int p2), (3, .int p3), (4, .ref (gad G 74))]) rfl (by rw [hL]; decide) ?_
      refine g_iconst C dL_addMark_25 (v := 3) (by decide) ?_
      exact g_iretW C hr hQ (Nat.le_of_eq (Nat.zero_add _)) (Nat.le_of_eq (Nat.zero_add _)) dL_addMark_26 (Or.inr ⟨hc, h1.symm, rfl, rfl, rfl⟩)
  · obtain ⟨hc, er, hX1, hM1, hK1⟩ := hx
    subst X1 M1 K1
    refine g_i2l C dL_addMark_10 ?_
    refine as_74 C dL_addMark_11 ?_
    refine g_goto C dL_addMark_12 (tgt := 27) (by decide) ?_
    refine g_iconst C dL_addMark_27 (v := 0) (by decide) ?_
    exact g_iretW C hr hQ (Nat.le_of_eq (Nat.zero_add _)) (Nat.le_of_eq (Nat.zero_add _)) dL_addMark_28 (Or.inl ⟨hc, rfl, rfl, rfl, by rw [er]⟩)

set_option maxHeartbeats 1000000 in
set_option maxRecDepth 100000 in
theorem c_L_sense (l : Launch) (D : va_G) (cy : Nat → ClassId) (A : Nat → Prop) (ad sad : Nat → Nat) (X M : XF) (K : KF) (p1 p2 : Int32) (hst : l.stackTraces = false) : Met l yL_sense (wsH yL_sense cL_sense 5 (some .int) [(0, 10, 13, 13)]) ({ frames := 7, cells := 1, slots := 6, locals := 104 }) (PcL D cy A ad sad X M K [.ref (ad 0), .int p1, .int p2, .ref (ad 74)]) (QiW D cy A ad (fun r X1 M1 K1 => (xk_sense p1 p2 = 0 ∧ r = 0 ∧ X1 = sa X 18 (upd (X 18) p1.toNatClampNeg p2) ∧ M1 = M ∧ K1 = kO K (sn_tell (X 19) (upd (X 18) p1.toNatClampNeg p2) (p1.toNatClampNeg / 3) : Int32).toInt64) ∨ (¬ xk_sense p1 p2 = 0 ∧ r = xk_sense p1 p2 ∧ X1 = X ∧ M1 = M ∧ K1 = K))) 1 6 A := by
  refine met_ofL [(0, .ref (ad 0)), (1, .int p1), (2, .int p2), (3, .ref (ad 74))] (by decide +kernel) (Nat.le_of_ble_eq_true rfl) rfl ?_
  intro G C hl hR hL hD hcy hA had hsa ht hN hr hQ
  subst hD hcy hA had hsa hl
  have hcode : xk_sense p1 p2 = 0 ∨ xk_sense p1 p2 = 1 := by
    unfold xk_sense
    repeat' split
    all_goals first | exact Or.inl rfl | exact Or.inr (rfl)
  refine g_aload_n C dL_sense_0 3 rfl ?_
  refine g_iconst C dL_sense_1 (v := 0) (by decide) ?_
  refine g_aload_n C dL_sense_2 0 rfl ?_
  refine g_iload_n C dL_sense_3 1 rfl ?_
  refine g_iload_n C dL_sense_4 2 rfl ?_
  refine g_tryi C (c_X10_sense _ _ _ _ _ _ _ _ _ p1 p2 hst) tw840 tw841 tw842 tw1 tw843 (rv_X10 C) rfl ⟨by decide +kernel, by decide +kernel, rfl⟩ ⟨rfl, rfl⟩ (by rw [hR]; exact ⟨Nat.le_of_ble_eq_true rfl, Nat.le_of_ble_eq_true rfl⟩) (Nat.le_of_ble_eq_true rfl) dL_sense_5 (by rw [hR]; exact ⟨Nat.le_of_eq (Nat.zero_add _), Nat.le_of_eq (Nat.zero_add _)⟩) (fun E X1 M1 K1 hx => ?_) (fun r X1 M1 K1 hx => ?_)
  · obtain ⟨hc, hE, hX1, hM1, hK1⟩ := hx
    subst hE
    subst X1 M1 K1
    have h1 := hcode.resolve_left hc
    have e1 : xn "java/lang/IllegalArgumentException" "java/lang/IllegalArgumentException" "java/lang/IllegalArgumentException" (xk_sense p1 p2) = "java/lang/IllegalArgumentException" := by rw [h1]; decide
    rw [e1]
    refine g_catch C [] ⟨0, 10, 13, 13⟩ [] ht (fun z hz => absurd hz List.not_mem_nil) (by decide) (by decide) tw591 (by decide +kernel) rfl (fun q => ?_)
    refine g_astore C dL_sense_13 (L' := [(4, .ref q), (0, .ref (gad G 0)), (1, .int p1), (2, .int p2), (3, .ref (gad G 74))]) rfl (by rw [hL]; decide) ?_
    refine g_iconst C dL_sense_15 (v := 1) (by decide) ?_
    exact g_iretW C hr hQ (Nat.le_of_eq (Nat.zero_add _)) (Nat.le_of_eq (Nat.zero_add _)) dL_sense_16 (Or.inr ⟨hc, h1.symm, rfl, rfl, rfl⟩)
  · obtain ⟨hc, er, hX1, hM1, hK1⟩ := hx
    subst X1 M1 K1
    refine g_i2l C dL_sense_8 ?_
    refine as_74 C dL_sense_9 ?_
    refine g_goto C dL_sense_10 (tgt := 17) (by decide) ?_
    refine g_iconst C dL_sense_17 (v := 0) (by decide) ?_
    exact g_iretW C hr hQ (Nat.le_of_eq (Nat.zero_add _)) (Nat.le_of_eq (Nat.zero_add _)) dL_sense_18 (Or.inl ⟨hc, rfl, rfl, rfl, by rw [er]⟩)

set_option maxHeartbeats 1000000 in
set_option maxRecDepth 100000 in
theorem c_L_inhibit (l : Launch) (D : va_G) (cy : Nat → ClassId) (A : Nat → Prop) (ad sad : Nat → Nat) (X M : XF) (K : KF) (p1 p2 : Int32) (h2 : isBo p2) (hst : l.stackTraces = false) : Met l yL_inhibit (wsH yL_inhibit cL_inhibit 5 (some .int) [(0, 10, 13, 13), (0, 10, 17, 45)]) ({ frames := 7, cells := 1, slots := 6, locals := 104 }) (PcL D cy A ad sad X M K [.ref (ad 0), .int p1, .int p2, .ref (ad 74)]) (QiW D cy A ad (fun r X1 M1 K1 => (xk_inh (X 19) p1 p2 = 0 ∧ r = 0 ∧ X1 = sa X 19 (upd (X 19) p1.toNatClampNeg p2) ∧ M1 = M ∧ K1 = kO K (sn_cnt (upd (X 19) p1.toNatClampNeg p2) (p1.toNatClampNeg / 3) 3 : Int32).toInt64) ∨ (¬ xk_inh (X 19) p1 p2 = 0 ∧ r = xk_inh (X 19) p1 p2 ∧ X1 = X ∧ M1 = M ∧ K1 = K))) 1 6 A := by
  refine met_ofL [(0, .ref (ad 0)), (1, .int p1), (2, .int p2), (3, .ref (ad 74))] (by decide +kernel) (Nat.le_of_ble_eq_true rfl) rfl ?_
  intro G C hl hR hL hD hcy hA had hsa ht hN hr hQ
  subst hD hcy hA had hsa hl
  have hcode : xk_inh (X 19) p1 p2 = 0 ∨ xk_inh (X 19) p1 p2 = 1 ∨ xk_inh (X 19) p1 p2 = 2 := by
    unfold xk_inh
    repeat' split
    all_goals first | exact Or.inl rfl | exact Or.inr (Or.inl rfl) | exact Or.inr (Or.inr (rfl))
  refine g_aload_n C dL_inhibit_0 3 rfl ?_
  refine g_iconst C dL_inhibit_1 (v := 0) (by decide) ?_
  refine g_aload_n C dL_inhibit_2 0 rfl ?_
  refine g_iload_n C dL_inhibit_3 1 rfl ?_
  refine g_iload_n C dL_inhibit_4 2 rfl ?_
  refine g_tryi C (c_X10_inhibit _ _ _ _ _ _ _ _ _ p1 p2 h2 hst) tw857 tw858 tw859 tw1 tw860 (rv_X10 C) rfl ⟨by decide +kernel, by decide +kernel, rfl⟩ ⟨rfl, rfl⟩ (by rw [hR]; exact ⟨Nat.le_of_ble_eq_true rfl, Nat.le_of_ble_eq_true rfl⟩) (Nat.le_of_ble_eq_true rfl) dL_inhibit_5 (by rw [hR]; exact ⟨Nat.le_of_eq (Nat.zero_add _), Nat.le_of_eq (Nat.zero_add _)⟩) (fun E X1 M1 K1 hx => ?_) (fun r X1 M1 K1 hx => ?_)
  · obtain ⟨hc, hE, hX1, hM1, hK1⟩ := hx
    subst hE
    subst X1 M1 K1
    rcases hcode.resolve_left hc with h1 | h1
    · have e1 : xn "java/lang/IllegalArgumentException" "java/lang/UnsupportedOperationException" "java/lang/UnsupportedOperationException" (xk_inh (X 19) p1 p2) = "java/lang/IllegalArgumentException" := by rw [h1]; decide
      rw [e1]
      refine g_catch C [] ⟨0, 10, 13, 13⟩ [⟨0, 10, 17, 45⟩] ht (fun z hz => absurd hz List.not_mem_nil) (by decide) (by decide) tw591 (by decide +kernel) rfl (fun q => ?_)
      refine g_astore C dL_inhibit_13 (L' := [(4, .ref q), (0, .ref (gad G 0)), (1, .int p1), (2, .int p2), (3, .ref (gad G 74))]) rfl (by rw [hL]; decide) ?_
      refine g_iconst C dL_inhibit_15 (v := 1) (by decide) ?_
      exact g_iretW C hr hQ (Nat.le_of_eq (Nat.zero_add _)) (Nat.le_of_eq (Nat.zero_add _)) dL_inhibit_16 (Or.inr ⟨hc, h1.symm, rfl, rfl, rfl⟩)
    · have e1 : xn "java/lang/IllegalArgumentException" "java/lang/UnsupportedOperationException" "java/lang/UnsupportedOperationException" (xk_inh (X 19) p1 p2) = "java/lang/UnsupportedOperationException" := by rw [h1]; decide
      rw [e1]
      refine g_catch C [⟨0, 10, 13, 13⟩] ⟨0, 10, 17, 45⟩ [] ht (fun z hz => by rw [List.mem_singleton.mp hz]; exact ⟨by decide, "java/lang/IllegalArgumentException", tw591, hN ("java/lang/UnsupportedOperationException", "java/lang/IllegalArgumentException") (by decide)⟩) (by decide) (by decide) tw803 (by decide +kernel) rfl (fun q => ?_)
      refine g_astore C dL_inhibit_17 (L' := [(4, .ref q), (0, .ref (gad G 0)), (1, .int p1), (2, .int p2), (3, .ref (gad G 74))]) rfl (by rw [hL]; decide) ?_
      refine g_iconst C dL_inhibit_19 (v := 2) (by decide) ?_
      exact g_iretW C hr hQ (Nat.le_of_eq (Nat.zero_add _)) (Nat.le_of_eq (Nat.zero_add _)) dL_inhibit_20 (Or.inr ⟨hc, h1.symm, rfl, rfl, rfl⟩)
  · obtain ⟨hc, er, hX1, hM1, hK1⟩ := hx
    subst X1 M1 K1
    refine g_i2l C dL_inhibit_8 ?_
    refine as_74 C dL_inhibit_9 ?_
    refine g_goto C dL_inhibit_10 (tgt := 21) (by decide) ?_
    refine g_iconst C dL_inhibit_21 (v := 0) (by decide) ?_
    exact g_iretW C hr hQ (Nat.le_of_eq (Nat.zero_add _)) (Nat.le_of_eq (Nat.zero_add _)) dL_inhibit_22 (Or.inl ⟨hc, rfl, rfl, rfl, by rw [er]⟩)

set_option maxHeartbeats 1000000 in
set_option maxRecDepth 100000 in
theorem c_L_setWind (l : Launch) (D : va_G) (cy : Nat → ClassId) (A : Nat → Prop) (ad sad : Nat → Nat) (X M : XF) (K : KF) (p1 : Int32) (hst : l.stackTraces = false) : Met l yL_setWind (wsH yL_setWind cL_setWind 4 (some .int) [(0, 9, 12, 13)]) ({ frames := 7, cells := 1, slots := 6, locals := 104 }) (PcL D cy A ad sad X M K [.ref (ad 0), .int p1, .ref (ad 74)]) (QiW D cy A ad (fun r X1 M1 K1 => (xk_w 0 200 p1 = 0 ∧ r = 0 ∧ X1 = si X 100 p1 ∧ M1 = M ∧ K1 = kO K (X 100 0 : Int32).toInt64) ∨ (¬ xk_w 0 200 p1 = 0 ∧ r = xk_w 0 200 p1 ∧ X1 = X ∧ M1 = M ∧ K1 = K))) 1 6 A := by
  refine met_ofL [(0, .ref (ad 0)), (1, .int p1), (2, .ref (ad 74))] (by decide +kernel) (Nat.le_of_ble_eq_true rfl) rfl ?_
  intro G C hl hR hL hD hcy hA had hsa ht hN hr hQ
  subst hD hcy hA had hsa hl
  have hcode : xk_w 0 200 p1 = 0 ∨ xk_w 0 200 p1 = 1 := by
    unfold xk_w
    repeat' split
    all_goals first | exact Or.inl rfl | exact Or.inr (rfl)
  refine g_aload_n C dL_setWind_0 2 rfl ?_
  refine g_iconst C dL_setWind_1 (v := 0) (by decide) ?_
  refine g_aload_n C dL_setWind_2 0 rfl ?_
  refine g_iload_n C dL_setWind_3 1 rfl ?_
  refine g_tryi C (c_X10_setWind _ _ _ _ _ _ _ _ _ p1 hst) tw871 tw872 tw873 tw1 tw874 (rv_X10 C) rfl ⟨by decide +kernel, by decide +kernel, rfl⟩ ⟨rfl, rfl⟩ (by rw [hR]; exact ⟨Nat.le_of_ble_eq_true rfl, Nat.le_of_ble_eq_true rfl⟩) (Nat.le_of_ble_eq_true rfl) dL_setWind_4 (by rw [hR]; exact ⟨Nat.le_of_eq (Nat.zero_add _), Nat.le_of_eq (Nat.zero_add _)⟩) (fun E X1 M1 K1 hx => ?_) (fun r X1 M1 K1 hx => ?_)
  · obtain ⟨hc, hE, hX1, hM1, hK1⟩ := hx
    subst hE
    subst X1 M1 K1
    have h1 := hcode.resolve_left hc
    have e1 : xn "java/lang/IllegalArgumentException" "java/lang/IllegalArgumentException" "java/lang/IllegalArgumentException" (xk_w 0 200 p1) = "java/lang/IllegalArgumentException" := by rw [h1]; decide
    rw [e1]
    refine g_catch C [] ⟨0, 9, 12, 13⟩ [] ht (fun z hz => absurd hz List.not_mem_nil) (by decide) (by decide) tw591 (by decide +kernel) rfl (fun q => ?_)
    refine g_astore_n C dL_setWind_12 (L' := [(3, .ref q), (0, .ref (gad G 0)), (1, .int p1), (2, .ref (gad G 74))]) rfl (by rw [hL]; decide) ?_
    refine g_iconst C dL_setWind_13 (v := 1) (by decide) ?_
    exact g_iretW C hr hQ (Nat.le_of_eq (Nat.zero_add _)) (Nat.le_of_eq (Nat.zero_add _)) dL_setWind_14 (Or.inr ⟨hc, h1.symm, rfl, rfl, rfl⟩)
  · obtain ⟨hc, er, hX1, hM1, hK1⟩ := hx
    subst X1 M1 K1
    refine g_i2l C dL_setWind_7 ?_
    refine as_74 C dL_setWind_8 ?_
    refine g_goto C dL_setWind_9 (tgt := 15) (by decide) ?_
    refine g_iconst C dL_setWind_15 (v := 0) (by decide) ?_
    exact g_iretW C hr hQ (Nat.le_of_eq (Nat.zero_add _)) (Nat.le_of_eq (Nat.zero_add _)) dL_setWind_16 (Or.inl ⟨hc, rfl, rfl, rfl, by rw [er]⟩)

set_option maxHeartbeats 1000000 in
set_option maxRecDepth 100000 in
theorem c_L_strike (l : Launch) (D : va_G) (cy : Nat → ClassId) (A : Nat → Prop) (ad sad : Nat → Nat) (X M : XF) (K : KF) (p1 : Int32) (t : Nat) (ht0 : X 101 0 = nI t) (htl : t < 2 ^ 31) (hst : l.stackTraces = false) : Met l yL_strike (wsH yL_strike cL_strike 4 (some .int) [(0, 9, 12, 13)]) ({ frames := 7, cells := 1, slots := 6, locals := 103 }) (PcL D cy A ad sad X M K [.ref (ad 0), .int p1, .ref (ad 74)]) (QiW D cy A ad (fun r X1 M1 K1 => (xk_w 0 99 p1 = 0 ∧ r = 0 ∧ X1 = (if 20 < p1 then X else si (sa X 21 (upd (X 21) (t % 600) (X 21 (t % 600) + 1))) 104 (X 104 0 + 1)) ∧ M1 = M ∧ K1 = kO K ((if 20 < p1 then X 104 0 else X 104 0 + 1) : Int32).toInt64) ∨ (¬ xk_w 0 99 p1 = 0 ∧ r = xk_w 0 99 p1 ∧ X1 = X ∧ M1 = M ∧ K1 = K))) 1 6 A := by
  refine met_ofL [(0, .ref (ad 0)), (1, .int p1), (2, .ref (ad 74))] (by decide +kernel) (Nat.le_of_ble_eq_true rfl) rfl ?_
  intro G C hl hR hL hD hcy hA had hsa ht hN hr hQ
  subst hD hcy hA had hsa hl
  have hcode : xk_w 0 99 p1 = 0 ∨ xk_w 0 99 p1 = 1 := by
    unfold xk_w
    repeat' split
    all_goals first | exact Or.inl rfl | exact Or.inr (rfl)
  refine g_aload_n C dL_strike_0 2 rfl ?_
  refine g_iconst C dL_strike_1 (v := 0) (by decide) ?_
  refine g_aload_n C dL_strike_2 0 rfl ?_
  refine g_iload_n C dL_strike_3 1 rfl ?_
  refine g_tryi C (c_X10_strike _ _ _ _ _ _ _ _ _ p1 t ht0 htl hst) tw879 tw880 tw881 tw1 tw882 (rv_X10 C) rfl ⟨by decide +kernel, by decide +kernel, rfl⟩ ⟨rfl, rfl⟩ (by rw [hR]; exact ⟨Nat.le_of_ble_eq_true rfl, Nat.le_of_ble_eq_true rfl⟩) (Nat.le_of_ble_eq_true rfl) dL_strike_4 (by rw [hR]; exact ⟨Nat.le_of_eq (Nat.zero_add _), Nat.le_of_eq (Nat.zero_add _)⟩) (fun E X1 M1 K1 hx => ?_) (fun r X1 M1 K1 hx => ?_)
  · obtain ⟨hc, hE, hX1, hM1, hK1⟩ := hx
    subst hE
    subst X1 M1 K1
    have h1 := hcode.resolve_left hc
    have e1 : xn "java/lang/IllegalArgumentException" "java/lang/IllegalArgumentException" "java/lang/IllegalArgumentException" (xk_w 0 99 p1) = "java/lang/IllegalArgumentException" := by rw [h1]; decide
    rw [e1]
    refine g_catch C [] ⟨0, 9, 12, 13⟩ [] ht (fun z hz => absurd hz List.not_mem_nil) (by decide) (by decide) tw591 (by decide +kernel) rfl (fun q => ?_)
    refine g_astore_n C dL_strike_12 (L' := [(3, .ref q), (0, .ref (gad G 0)), (1, .int p1), (2, .ref (gad G 74))]) rfl (by rw [hL]; decide) ?_
    refine g_iconst C dL_strike_13 (v := 1) (by decide) ?_
    exact g_iretW C hr hQ (Nat.le_of_eq (Nat.zero_add _)) (Nat.le_of_eq (Nat.zero_add _)) dL_strike_14 (Or.inr ⟨hc, h1.symm, rfl, rfl, rfl⟩)
  · obtain ⟨hc, er, hX1, hM1, hK1⟩ := hx
    subst X1 M1 K1
    refine g_i2l C dL_strike_7 ?_
    refine as_74 C dL_strike_8 ?_
    refine g_goto C dL_strike_9 (tgt := 15) (by decide) ?_
    refine g_iconst C dL_strike_15 (v := 0) (by decide) ?_
    exact g_iretW C hr hQ (Nat.le_of_eq (Nat.zero_add _)) (Nat.le_of_eq (Nat.zero_add _)) dL_strike_16 (Or.inl ⟨hc, rfl, rfl, rfl, by rw [er]⟩)

set_option maxHeartbeats 1000000 in
set_option maxRecDepth 100000 in
theorem c_L_boat (l : Launch) (D : va_G) (cy : Nat → ClassId) (A : Nat → Prop) (ad sad : Nat → Nat) (X M : XF) (K : KF) (p1 p2 p3 : Int32) (hst : l.stackTraces = false) : Met l yL_boat (wsH yL_boat cL_boat 6 (some .int) [(0, 12, 15, 13)]) ({ frames := 7, cells := 1, slots := 6, locals := 105 }) (PcL D cy A ad sad X M K [.ref (ad 0), .int p1, .int p2, .int p3, .ref (ad 74)]) (QiW D cy A ad (fun r X1 M1 K1 => (xk_boat p1 p2 p3 = 0 ∧ r = 0 ∧ X1 = sa X 23 (upd (X 23) p1.toNatClampNeg (bt_risk p2 p3)) ∧ M1 = M ∧ K1 = kO K (bt_sum (upd (X 23) p1.toNatClampNeg (bt_risk p2 p3)) 8 : Int32).toInt64) ∨ (¬ xk_boat p1 p2 p3 = 0 ∧ r = xk_boat p1 p2 p3 ∧ X1 = X ∧ M1 = M ∧ K1 = K))) 1 6 A := by
  refine met_ofL [(0, .ref (ad 0)), (1, .int p1), (2, .int p2), (3, .int p3), (4, .ref (ad 74))] (by decide +kernel) (Nat.le_of_ble_eq_true rfl) rfl ?_
  intro G C hl hR hL hD hcy hA had hsa ht hN hr hQ
  subst hD hcy hA had hsa hl
  have hcode : xk_boat p1 p2 p3 = 0 ∨ xk_boat p1 p2 p3 = 1 := by
    unfold xk_boat
    repeat' split
    all_goals first | exact Or.inl rfl | exact Or.inr (rfl)
  refine g_aload C dL_boat_0 4 rfl ?_
  refine g_iconst C dL_boat_2 (v := 0) (by decide) ?_
  refine g_aload_n C dL_boat_3 0 rfl ?_
  refine g_iload_n C dL_boat_4 1 rfl ?_
  refine g_iload_n C dL_boat_5 2 rfl ?_
  refine g_iload_n C dL_boat_6 3 rfl ?_
  refine g_tryi C (c_X10_boat _ _ _ _ _ _ _ _ _ p1 p2 p3 hst) tw891 tw892 tw893 tw1 tw894 (rv_X10 C) rfl ⟨by decide +kernel, by decide +kernel, rfl⟩ ⟨rfl, rfl⟩ (by rw [hR]; exact ⟨Nat.le_of_ble_eq_true rfl, Nat.le_of_ble_eq_true rfl⟩) (Nat.le_of_ble_eq_true rfl) dL_boat_7 (by rw [hR]; exact ⟨Nat.le_of_eq (Nat.zero_add _), Nat.le_of_eq (Nat.zero_add _)⟩) (fun E X1 M1 K1 hx => ?_) (fun r X1 M1 K1 hx => ?_)
  · obtain ⟨hc, hE, hX1, hM1, hK1⟩ := hx
    subst hE
    subst X1 M1 K1
    have h1 := hcode.resolve_left hc
    have e1 : xn "java/lang/IllegalArgumentException" "java/lang/IllegalArgumentException" "java/lang/IllegalArgumentException" (xk_boat p1 p2 p3) = "java/lang/IllegalArgumentException" := by rw [h1]; decide
    rw [e1]
    refine g_catch C [] ⟨0, 12, 15, 13⟩ [] ht (fun z hz => absurd hz List.not_mem_nil) (by decide) (by decide) tw591 (by decide +kernel) rfl (fun q => ?_)
    refine g_astore C dL_boat_15 (L' := [(5, .ref q), (0, .ref (gad G 0)), (1, .int p1), (2, .int p2), (3, .int p3), (4, .ref (gad G 74))]) rfl (by rw [hL]; decide) ?_
    refine g_iconst C dL_boat_17 (v := 1) (by decide) ?_
    exact g_iretW C hr hQ (Nat.le_of_eq (Nat.zero_add _)) (Nat.le_of_eq (Nat.zero_add _)) dL_boat_18 (Or.inr ⟨hc, h1.symm, rfl, rfl, rfl⟩)
  · obtain ⟨hc, er, hX1, hM1, hK1⟩ := hx
    subst X1 M1 K1
    refine g_i2l C dL_boat_10 ?_
    refine as_74 C dL_boat_11 ?_
    refine g_goto C dL_boat_12 (tgt := 19) (by decide) ?_
    refine g_iconst C dL_boat_19 (v := 0) (by decide) ?_
    exact g_iretW C hr hQ (Nat.le_of_eq (Nat.zero_add _)) (Nat.le_of_eq (Nat.zero_add _)) dL_boat_20 (Or.inl ⟨hc, rfl, rfl, rfl, by rw [er]⟩)

set_option maxHeartbeats 1000000 in
set_option maxRecDepth 100000 in
theorem c_L_addRule (l : Launch) (D : va_G) (cy : Nat → ClassId) (A : Nat → Prop) (ad sad : Nat → Nat) (X M : XF) (K : KF) (p1 p2 p3 p4 p5 : Int32) (h1 : isCh p1) (z : Nat) (hz : X 105 0 = nI z) (hzl : z ≤ 12) (hst : l.stackTraces = false) : Met l yL_addRule (wsH yL_addRule cL_addRule 8 (some .int) [(0, 16, 19, 13), (0, 16, 23, 30)]) ({ frames := 7, cells := 1, slots := 6, locals := 107 }) (PcL D cy A ad sad X M K [.ref (ad 0), .int p1, .int p2, .int p3, .int p4, .int p5, .ref (ad 74)]) (QiW D cy A ad (fun r X1 M1 K1 => (xk_rule (nI z) p1 p2 p3 p4 p5 = 0 ∧ r = 0 ∧ X1 = si (sa (sa (sa (sa (sa (sa X 25 (upd (X 25) z p1)) 26 (upd (X 26) z p2)) 27 (upd (X 27) z p3)) 28 (upd (X 28) z p4)) 29 (upd (X 29) z p5)) 33 (upd (X 33) z (-1))) 105 (nI z + 1) ∧ M1 = M ∧ K1 = kO K (nI z : Int32).toInt64) ∨ (¬ xk_rule (nI z) p1 p2 p3 p4 p5 = 0 ∧ r = xk_rule (nI z) p1 p2 p3 p4 p5 ∧ X1 = X ∧ M1 = M ∧ K1 = K))) 1 6 A := by
  refine met_ofL [(0, .ref (ad 0)), (1, .int p1), (2, .int p2), (3, .int p3), (4, .int p4), (5, .int p5), (6, .ref (ad 74))] (by decide +kernel) (Nat.le_of_ble_eq_true rfl) rfl ?_
  intro G C hl hR hL hD hcy hA had hsa ht hN hr hQ
  subst hD hcy hA had hsa hl
  have hcode : xk_rule (nI z) p1 p2 p3 p4 p5 = 0 ∨ xk_rule (nI z) p1 p2 p3 p4 p5 = 1 ∨ xk_rule (nI z) p1 p2 p3 p4 p5 = 2 := by
    unfold xk_rule
    repeat' split
    all_goals first | exact Or.inl rfl | exact Or.inr (Or.inl rfl) | exact Or.inr (Or.inr (rfl))
  refine g_aload C dL_addRule_0 6 rfl ?_
  refine g_iconst C dL_addRule_2 (v := 0) (by decide) ?_
  refine g_aload_n C dL_addRule_3 0 rfl ?_
  refine g_iload_n C dL_addRule_4 1 rfl ?_
  refine g_iload_n C dL_addRule_5 2 rfl ?_
  refine g_iload_n C dL_addRule_6 3 rfl ?_
  refine g_iload C dL_addRule_7 4 rfl ?_
  refine g_iload C dL_addRule_9 5 rfl ?_
  refine g_tryi C (c_X10_addRule _ _ _ _ _ _ _ _ _ p1 p2 p3 p4 p5 h1 z hz hzl hst) tw903 tw904 tw905 tw1 tw906 (rv_X10 C) rfl ⟨by decide +kernel, by decide +kernel, rfl⟩ ⟨rfl, rfl⟩ (by rw [hR]; exact ⟨Nat.le_of_ble_eq_true rfl, Nat.le_of_ble_eq_true rfl⟩) (Nat.le_of_ble_eq_true rfl) dL_addRule_11 (by rw [hR]; exact ⟨Nat.le_of_eq (Nat.zero_add _), Nat.le_of_eq (Nat.zero_add _)⟩) (fun E X1 M1 K1 hx => ?_) (fun r X1 M1 K1 hx => ?_)
  · obtain ⟨hc, hE, hX1, hM1, hK1⟩ := hx
    subst hE
    subst X1 M1 K1
    rcases hcode.resolve_left hc with h1 | h1
    · have e1 : xn "java/lang/IllegalArgumentException" "java/lang/IllegalStateException" "java/lang/IllegalStateException" (xk_rule (nI z) p1 p2 p3 p4 p5) = "java/lang/IllegalArgumentException" := by rw [h1]; decide
      rw [e1]
      refine g_catch C [] ⟨0, 16, 19, 13⟩ [⟨0, 16, 23, 30⟩] ht (fun z hz => absurd hz List.not_mem_nil) (by decide) (by decide) tw591 (by decide +kernel) rfl (fun q => ?_)
      refine g_astore C dL_addRule_19 (L' := [(7, .ref q), (0, .ref (gad G 0)), (1, .int p1), (2, .int p2), (3, .int p3), (4, .int p4), (5, .int p5), (6, .ref (gad G 74))]) rfl (by rw [hL]; decide) ?_
      refine g_iconst C dL_addRule_21 (v := 1) (by decide) ?_
      exact g_iretW C hr hQ (Nat.le_of_eq (Nat.zero_add _)) (Nat.le_of_eq (Nat.zero_add _)) dL_addRule_22 (Or.inr ⟨hc, h1.symm, rfl, rfl, rfl⟩)
    · have e1 : xn "java/lang/IllegalArgumentException" "java/lang/IllegalStateException" "java/lang/IllegalStateException" (xk_rule (nI z) p1 p2 p3 p4 p5) = "java/lang/IllegalStateException" := by rw [h1]; decide
      rw [e1]
      refine g_catch C [⟨0, 16, 19, 13⟩] ⟨0, 16, 23, 30⟩ [] ht (fun z hz => by rw [List.mem_singleton.mp hz]; exact ⟨by decide, "java/lang/IllegalArgumentException", tw591, hN ("java/lang/IllegalStateException", "java/lang/IllegalArgumentException") (by decide)⟩) (by decide) (by decide) tw707 (by decide +kernel) rfl (fun q => ?_)
      refine g_astore C dL_addRule_23 (L' := [(7, .ref q), (0, .ref (gad G 0)), (1, .int p1), (2, .int p2), (3, .int p3), (4, .int p4), (5, .int p5), (6, .ref (gad G 74))]) rfl (by rw [hL]; decide) ?_
      refine g_iconst C dL_addRule_25 (v := 2) (by decide) ?_
      exact g_iretW C hr hQ (Nat.le_of_eq (Nat.zero_add _)) (Nat.le_of_eq (Nat.zero_add _)) dL_addRule_26 (Or.inr ⟨hc, h1.symm, rfl, rfl, rfl⟩)
  · obtain ⟨hc, er, hX1, hM1, hK1⟩ := hx
    subst X1 M1 K1
    refine g_i2l C dL_addRule_14 ?_
    refine as_74 C dL_addRule_15 ?_
    refine g_goto C dL_addRule_16 (tgt := 27) (by decide) ?_
    refine g_iconst C dL_addRule_27 (v := 0) (by decide) ?_
    exact g_iretW C hr hQ (Nat.le_of_eq (Nat.zero_add _)) (Nat.le_of_eq (Nat.zero_add _)) dL_addRule_28 (Or.inl ⟨hc, rfl, rfl, rfl, by rw [er]⟩)

set_option maxHeartbeats 1000000 in
set_option maxRecDepth 100000 in
theorem c_L_mayWaive (l : Launch) (D : va_G) (cy : Nat → ClassId) (A : Nat → Prop) (ad sad : Nat → Nat) (X M : XF) (K : KF) (p1 p2 : Int32) (z : Nat) (hz : X 105 0 = nI z) (hzl : z ≤ 12) (hst : l.stackTraces = false) : Met l yL_mayWaive (wsH yL_mayWaive cL_mayWaive 5 (some .int) [(0, 17, 20, 35), (0, 17, 24, 13)]) ({ frames := 7, cells := 1, slots := 6, locals := 105 }) (PcL D cy A ad sad X M K [.ref (ad 0), .int p1, .int p2, .ref (ad 74)]) (QiW D cy A ad (fun r X1 M1 K1 => (xk_may (nI z) p1 p2 = 0 ∧ r = 0 ∧ X1 = sa X 32 (upd (X 32) p1.toNatClampNeg (X 32 p1.toNatClampNeg ||| (1 <<< (p2 &&& 31)))) ∧ M1 = M ∧ K1 = kO K (if ((if rl_may (X 32 p1.toNatClampNeg) p2 = 0 then 1 else 0) : Int32) = 0 then 0 else 1)) ∨ (¬ xk_may (nI z) p1 p2 = 0 ∧ r = xk_may (nI z) p1 p2 ∧ X1 = X ∧ M1 = M ∧ K1 = K))) 1 6 A := by
  refine met_ofL [(0, .ref (ad 0)), (1, .int p1), (2, .int p2), (3, .ref (ad 74))] (by decide +kernel) (Nat.le_of_ble_eq_true rfl) rfl ?_
  intro G C hl hR hL hD hcy hA had hsa ht hN hr hQ
  subst hD hcy hA had hsa hl
  have hcode : xk_may (nI z) p1 p2 = 0 ∨ xk_may (nI z) p1 p2 = 1 ∨ xk_may (nI z) p1 p2 = 2 := by
    unfold xk_may
    repeat' split
    all_goals first | exact Or.inl rfl | exact Or.inr (Or.inl rfl) | exact Or.inr (Or.inr (rfl))
  refine g_aload_n C dL_mayWaive_0 3 rfl ?_
  refine g_iconst C dL_mayWaive_1 (v := 0) (by decide) ?_
  refine g_aload_n C dL_mayWaive_2 0 rfl ?_
  refine g_iload_n C dL_mayWaive_3 1 rfl ?_
  refine g_iload_n C dL_mayWaive_4 2 rfl ?_
  refine g_tryi C (c_X10_mayWaive _ _ _ _ _ _ _ _ _ p1 p2 z hz hzl hst) tw919 tw920 tw921 tw1 tw922 (rv_X10 C) rfl ⟨by decide +kernel, by decide +kernel, rfl⟩ ⟨rfl, rfl⟩ (by rw [hR]; exact ⟨Nat.le_of_ble_eq_true rfl, Nat.le_of_ble_eq_true rfl⟩) (Nat.le_of_ble_eq_true rfl) dL_mayWaive_5 (by rw [hR]; exact ⟨Nat.le_of_eq (Nat.zero_add _), Nat.le_of_eq (Nat.zero_add _)⟩) (fun E X1 M1 K1 hx => ?_) (fun r X1 M1 K1 hx => ?_)
  · obtain ⟨hc, hE, hX1, hM1, hK1⟩ := hx
    subst hE
    subst X1 M1 K1
    rcases hcode.resolve_left hc with h1 | h1
    · have e1 : xn "java/lang/IndexOutOfBoundsException" "java/lang/IllegalArgumentException" "java/lang/IllegalArgumentException" (xk_may (nI z) p1 p2) = "java/lang/IndexOutOfBoundsException" := by rw [h1]; decide
      rw [e1]
      refine g_catch C [] ⟨0, 17, 20, 35⟩ [⟨0, 17, 24, 13⟩] ht (fun z hz => absurd hz List.not_mem_nil) (by decide) (by decide) tw740 (by decide +kernel) rfl (fun q => ?_)
      refine g_astore C dL_mayWaive_20 (L' := [(4, .ref q), (0, .ref (gad G 0)), (1, .int p1), (2, .int p2), (3, .ref (gad G 74))]) rfl (by rw [hL]; decide) ?_
      refine g_iconst C dL_mayWaive_22 (v := 1) (by decide) ?_
      exact g_iretW C hr hQ (Nat.le_of_eq (Nat.zero_add _)) (Nat.le_of_eq (Nat.zero_add _)) dL_mayWaive_23 (Or.inr ⟨hc, h1.symm, rfl, rfl, rfl⟩)
    · have e1 : xn "java/lang/IndexOutOfBoundsException" "java/lang/IllegalArgumentException" "java/lang/IllegalArgumentException" (xk_may (nI z) p1 p2) = "java/lang/IllegalArgumentException" := by rw [h1]; decide
      rw [e1]
      refine g_catch C [⟨0, 17, 20, 35⟩] ⟨0, 17, 24, 13⟩ [] ht (fun z hz => by rw [List.mem_singleton.mp hz]; exact ⟨by decide, "java/lang/IndexOutOfBoundsException", tw740, hN ("java/lang/IllegalArgumentException", "java/lang/IndexOutOfBoundsException") (by decide)⟩) (by decide) (by decide) tw591 (by decide +kernel) rfl (fun q => ?_)
      refine g_astore C dL_mayWaive_24 (L' := [(4, .ref q), (0, .ref (gad G 0)), (1, .int p1), (2, .int p2), (3, .ref (gad G 74))]) rfl (by rw [hL]; decide) ?_
      refine g_iconst C dL_mayWaive_26 (v := 2) (by decide) ?_
      exact g_iretW C hr hQ (Nat.le_of_eq (Nat.zero_add _)) (Nat.le_of_eq (Nat.zero_add _)) dL_mayWaive_27 (Or.inr ⟨hc, h1.symm, rfl, rfl, rfl⟩)
  · obtain ⟨hc, er, hX1, hM1, hK1⟩ := hx
    subst X1 M1 K1
    refine g_if_eq C dL_mayWaive_8 (tgt := 15) (by decide) (fun c => ?_) (fun c => ?_)
    · refine g_lconst C dL_mayWaive_15 (v := 0) (by decide) ?_
      refine as_74 C dL_mayWaive_16 ?_
      refine g_goto C dL_mayWaive_17 (tgt := 28) (by decide) ?_
      refine g_iconst C dL_mayWaive_28 (v := 0) (by decide) ?_
      exact g_iretW C hr hQ (Nat.le_of_eq (Nat.zero_add _)) (Nat.le_of_eq (Nat.zero_add _)) dL_mayWaive_29 (Or.inl ⟨hc, rfl, rfl, rfl, by rw [← er, if_pos c]⟩)
    · refine g_lconst C dL_mayWaive_11 (v := 1) (by decide) ?_
      refine g_goto C dL_mayWaive_12 (tgt := 16) (by decide) ?_
      refine as_74 C dL_mayWaive_16 ?_
      refine g_goto C dL_mayWaive_17 (tgt := 28) (by decide) ?_
      refine g_iconst C dL_mayWaive_28 (v := 0) (by decide) ?_
      exact g_iretW C hr hQ (Nat.le_of_eq (Nat.zero_add _)) (Nat.le_of_eq (Nat.zero_add _)) dL_mayWaive_29 (Or.inl ⟨hc, rfl, rfl, rfl, by rw [← er, if_neg c]⟩)

set_option maxHeartbeats 1000000 in
set_option maxRecDepth 100000 in
theorem c_L_waive (l : Launch) (D : va_G) (cy : Nat → ClassId) (A : Nat → Prop) (ad sad : Nat → Nat) (X M : XF) (K : KF) (p1 p2 p3 : Int32) (z : Nat) (hz : X 105 0 = nI z) (hzl : z ≤ 12) (hst : l.stackTraces = false) : Met l yL_waive (wsH yL_waive cL_waive 6 (some .int) [(0, 19, 22, 35), (0, 19, 26, 13), (0, 19, 30, 45)]) ({ frames := 7, cells := 1, slots := 6, locals := 106 }) (PcL D cy A ad sad X M K [.ref (ad 0), .int p1, .int p2, .int p3, .ref (ad 74)]) (QiW D cy A ad (fun r X1 M1 K1 => (xk_waive (X 32) (nI z) p1 p2 p3 = 0 ∧ r = 0 ∧ X1 = sa (sa X 33 (upd (X 33) p1.toNatClampNeg p2)) 34 (upd (X 34) p1.toNatClampNeg p3) ∧ M1 = M ∧ K1 = kO K (if (cl_iw X p1.toNatClampNeg : Int32) = 0 then 0 else 1)) ∨ (¬ xk_waive (X 32) (nI z) p1 p2 p3 = 0 ∧ r = xk_waive (X 32) (nI z) p1 p2 p3 ∧ X1 = X ∧ M1 = M ∧ K1 = K))) 1 6 A := by
  refine met_ofL [(0, .ref (ad 0)), (1, .int p1), (2, .int p2), (3, .int p3), (4, .ref (ad 74))] (by decide +kernel) (Nat.le_of_ble_eq_true rfl) rfl ?_
  intro G C hl hR hL hD hcy hA had hsa ht hN hr hQ
  subst hD hcy hA had hsa hl
  have hcode : xk_waive (X 32) (nI z) p1 p2 p3 = 0 ∨ xk_waive (X 32) (nI z) p1 p2 p3 = 1 ∨ xk_waive (X 32) (nI z) p1 p2 p3 = 2 ∨ xk_waive (X 32) (nI z) p1 p2 p3 = 3 := by
    unfold xk_waive
    repeat' split
    all_goals first | exact Or.inl rfl | exact Or.inr (Or.inl rfl) | exact Or.inr (Or.inr (Or.inl rfl)) | exact Or.inr (Or.inr (Or.inr (rfl)))
  refine g_aload C dL_waive_0 4 rfl ?_
  refine g_iconst C dL_waive_2 (v := 0) (by decide) ?_
  refine g_aload_n C dL_waive_3 0 rfl ?_
  refine g_iload_n C dL_waive_4 1 rfl ?_
  refine g_iload_n C dL_waive_5 2 rfl ?_
  refine g_iload_n C dL_waive_6 3 rfl ?_
  refine g_tryi C (c_X10_waive _ _ _ _ _ _ _ _ _ p1 p2 p3 z hz hzl hst) tw932 tw933 tw934 tw1 tw935 (rv_X10 C) rfl ⟨by decide +kernel, by decide +kernel, rfl⟩ ⟨rfl, rfl⟩ (by rw [hR]; exact ⟨Nat.le_of_ble_eq_true rfl, Nat.le_of_ble_eq_true rfl⟩) (Nat.le_of_ble_eq_true rfl) dL_waive_7 (by rw [hR]; exact ⟨Nat.le_of_eq (Nat.zero_add _), Nat.le_of_eq (Nat.zero_add _)⟩) (fun E X1 M1 K1 hx => ?_) (fun r X1 M1 K1 hx => ?_)
  · obtain ⟨hc, hE, hX1, hM1, hK1⟩ := hx
    subst hE
    subst X1 M1 K1
    rcases hcode.resolve_left hc with h1 | h1 | h1
    · have e1 : xn "java/lang/IndexOutOfBoundsException" "java/lang/IllegalArgumentException" "java/lang/UnsupportedOperationException" (xk_waive (X 32) (nI z) p1 p2 p3) = "java/lang/IndexOutOfBoundsException" := by rw [h1]; decide
      rw [e1]
      refine g_catch C [] ⟨0, 19, 22, 35⟩ [⟨0, 19, 26, 13⟩, ⟨0, 19, 30, 45⟩] ht (fun z hz => absurd hz List.not_mem_nil) (by decide) (by decide) tw740 (by decide +kernel) rfl (fun q => ?_)
      refine g_astore C dL_waive_22 (L' := [(5, .ref q), (0, .ref (gad G 0)), (1, .int p1), (2, .int p2), (3, .int p3), (4, .ref (gad G 74))]) rfl (by rw [hL]; decide) ?_
      refine g_iconst C dL_waive_24 (v := 1) (by decide) ?_
      exact g_iretW C hr hQ (Nat.le_of_eq (Nat.zero_add _)) (Nat.le_of_eq (Nat.zero_add _)) dL_waive_25 (Or.inr ⟨hc, h1.symm, rfl, rfl, rfl⟩)
    · have e1 : xn "java/lang/IndexOutOfBoundsException" "java/lang/IllegalArgumentException" "java/lang/UnsupportedOperationException" (xk_waive (X 32) (nI z) p1 p2 p3) = "java/lang/IllegalArgumentException" := by rw [h1]; decide
      rw [e1]
      refine g_catch C [⟨0, 19, 22, 35⟩] ⟨0, 19, 26, 13⟩ [⟨0, 19, 30, 45⟩] ht (fun z hz => by rw [List.mem_singleton.mp hz]; exact ⟨by decide, "java/lang/IndexOutOfBoundsException", tw740, hN ("java/lang/IllegalArgumentException", "java/lang/IndexOutOfBoundsException") (by decide)⟩) (by decide) (by decide) tw591 (by decide +kernel) rfl (fun q => ?_)
      refine g_astore C dL_waive_26 (L' := [(5, .ref q), (0, .ref (gad G 0)), (1, .int p1), (2, .int p2), (3, .int p3), (4, .ref (gad G 74))]) rfl (by rw [hL]; decide) ?_
      refine g_iconst C dL_waive_28 (v := 2) (by decide) ?_
      exact g_iretW C hr hQ (Nat.le_of_eq (Nat.zero_add _)) (Nat.le_of_eq (Nat.zero_add _)) dL_waive_29 (Or.inr ⟨hc, h1.symm, rfl, rfl, rfl⟩)
    · have e1 : xn "java/lang/IndexOutOfBoundsException" "java/lang/IllegalArgumentException" "java/lang/UnsupportedOperationException" (xk_waive (X 32) (nI z) p1 p2 p3) = "java/lang/UnsupportedOperationException" := by rw [h1]; decide
      rw [e1]
      refine g_catch C [⟨0, 19, 22, 35⟩, ⟨0, 19, 26, 13⟩] ⟨0, 19, 30, 45⟩ [] ht (fun z hz => (List.mem_cons.mp hz).elim (fun q => by rw [q]; exact ⟨by decide, "java/lang/IndexOutOfBoundsException", tw740, hN ("java/lang/UnsupportedOperationException", "java/lang/IndexOutOfBoundsException") (by decide)⟩) (fun q => by rw [List.mem_singleton.mp q]; exact ⟨by decide, "java/lang/IllegalArgumentException", tw591, hN ("java/lang/UnsupportedOperationException", "java/lang/IllegalArgumentException") (by decide)⟩)) (by decide) (by decide) tw803 (by decide +kernel) rfl (fun q => ?_)
      refine g_astore C dL_waive_30 (L' := [(5, .ref q), (0, .ref (gad G 0)), (1, .int p1), (2, .int p2), (3, .int p3), (4, .ref (gad G 74))]) rfl (by rw [hL]; decide) ?_
      refine g_iconst C dL_waive_32 (v := 3) (by decide) ?_
      exact g_iretW C hr hQ (Nat.le_of_eq (Nat.zero_add _)) (Nat.le_of_eq (Nat.zero_add _)) dL_waive_33 (Or.inr ⟨hc, h1.symm, rfl, rfl, rfl⟩)
  · obtain ⟨hc, er, hX1, hM1, hK1⟩ := hx
    subst X1 M1 K1
    refine g_if_eq C dL_waive_10 (tgt := 17) (by decide) (fun c => ?_) (fun c => ?_)
    · refine g_lconst C dL_waive_17 (v := 0) (by decide) ?_
      refine as_74 C dL_waive_18 ?_
      refine g_goto C dL_waive_19 (tgt := 34) (by decide) ?_
      refine g_iconst C dL_waive_34 (v := 0) (by decide) ?_
      exact g_iretW C hr hQ (Nat.le_of_eq (Nat.zero_add _)) (Nat.le_of_eq (Nat.zero_add _)) dL_waive_35 (Or.inl ⟨hc, rfl, rfl, rfl, by rw [← er, if_pos c]⟩)
    · refine g_lconst C dL_waive_13 (v := 1) (by decide) ?_
      refine g_goto C dL_waive_14 (tgt := 18) (by decide) ?_
      refine as_74 C dL_waive_18 ?_
      refine g_goto C dL_waive_19 (tgt := 34) (by decide) ?_
      refine g_iconst C dL_waive_34 (v := 0) (by decide) ?_
      exact g_iretW C hr hQ (Nat.le_of_eq (Nat.zero_add _)) (Nat.le_of_eq (Nat.zero_add _)) dL_waive_35 (Or.inl ⟨hc, rfl, rfl, rfl, by rw [← er, if_neg c]⟩)

set_option maxHeartbeats 1000000 in
set_option maxRecDepth 100000 in
theorem c_L_go (l : Launch) (D : va_G) (cy : Nat → ClassId) (A : Nat → Prop) (ad sad : Nat → Nat) (X M : XF) (K : KF) (p1 p2 : Int32) (h2 : isBo p2) (hb : ∀ i : Nat, isBo (X 41 i)) (hst : l.stackTraces = false) : Met l yL_go (wsH yL_go cL_go 5 (some .int) [(0, 17, 20, 13)]) ({ frames := 7, cells := 1, slots := 6, locals := 105 }) (PcL D cy A ad sad X M K [.ref (ad 0), .int p1, .int p2, .ref (ad 74)]) (QiW D cy A ad (fun r X1 M1 K1 => (xk_b p1 6 = 0 ∧ r = 0 ∧ X1 = sa X 41 (upd (X 41) p1.toNatClampNeg p2) ∧ M1 = M ∧ K1 = kO K (if (X 41 p1.toNatClampNeg : Int32) = 0 then 0 else 1)) ∨ (¬ xk_b p1 6 = 0 ∧ r = xk_b p1 6 ∧ X1 = X ∧ M1 = M ∧ K1 = K))) 1 6 A := by
  refine met_ofL [(0, .ref (ad 0)), (1, .int p1), (2, .int p2), (3, .ref (ad 74))] (by decide +kernel) (Nat.le_of_ble_eq_true rfl) rfl ?_
  intro G C hl hR hL hD hcy hA had hsa ht hN hr hQ
  subst hD hcy hA had hsa hl
  have hcode : xk_b p1 6 = 0 ∨ xk_b p1 6 = 1 := by
    unfold xk_b
    repeat' split
    all_goals first | exact Or.inl rfl | exact Or.inr (rfl)
  refine g_aload_n C dL_go_0 3 rfl ?_
  refine g_iconst C dL_go_1 (v := 0) (by decide) ?_
  refine g_aload_n C dL_go_2 0 rfl ?_
  refine g_iload_n C dL_go_3 1 rfl ?_
  refine g_iload_n C dL_go_4 2 rfl ?_
  refine g_tryi C (c_X10_go _ _ _ _ _ _ _ _ _ p1 p2 h2 hb hst) tw949 tw950 tw951 tw1 tw952 (rv_X10 C) rfl ⟨by decide +kernel, by decide +kernel, rfl⟩ ⟨rfl, rfl⟩ (by rw [hR]; exact ⟨Nat.le_of_ble_eq_true rfl, Nat.le_of_ble_eq_true rfl⟩) (Nat.le_of_ble_eq_true rfl) dL_go_5 (by rw [hR]; exact ⟨Nat.le_of_eq (Nat.zero_add _), Nat.le_of_eq (Nat.zero_add _)⟩) (fun E X1 M1 K1 hx => ?_) (fun r X1 M1 K1 hx => ?_)
  · obtain ⟨hc, hE, hX1, hM1, hK1⟩ := hx
    subst hE
    subst X1 M1 K1
    have h1 := hcode.resolve_left hc
    have e1 : xn "java/lang/IllegalArgumentException" "java/lang/IllegalArgumentException" "java/lang/IllegalArgumentException" (xk_b p1 6) = "java/lang/IllegalArgumentException" := by rw [h1]; decide
    rw [e1]
    refine g_catch C [] ⟨0, 17, 20, 13⟩ [] ht (fun z hz => absurd hz List.not_mem_nil) (by decide) (by decide) tw591 (by decide +kernel) rfl (fun q => ?_)
    refine g_astore C dL_go_20 (L' := [(4, .ref q), (0, .ref (gad G 0)), (1, .int p1), (2, .int p2), (3, .ref (gad G 74))]) rfl (by rw [hL]; decide) ?_
    refine g_iconst C dL_go_22 (v := 1) (by decide) ?_
    exact g_iretW C hr hQ (Nat.le_of_eq (Nat.zero_add _)) (Nat.le_of_eq (Nat.zero_add _)) dL_go_23 (Or.inr ⟨hc, h1.symm, rfl, rfl, rfl⟩)
  · obtain ⟨hc, er, hX1, hM1, hK1⟩ := hx
    subst X1 M1 K1
    refine g_if_eq C dL_go_8 (tgt := 15) (by decide) (fun c => ?_) (fun c => ?_)
    · refine g_lconst C dL_go_15 (v := 0) (by decide) ?_
      refine as_74 C dL_go_16 ?_
      refine g_goto C dL_go_17 (tgt := 24) (by decide) ?_
      refine g_iconst C dL_go_24 (v := 0) (by decide) ?_
      exact g_iretW C hr hQ (Nat.le_of_eq (Nat.zero_add _)) (Nat.le_of_eq (Nat.zero_add _)) dL_go_25 (Or.inl ⟨hc, rfl, rfl, rfl, by rw [← er, if_pos c]⟩)
    · refine g_lconst C dL_go_11 (v := 1) (by decide) ?_
      refine g_goto C dL_go_12 (tgt := 16) (by decide) ?_
      refine as_74 C dL_go_16 ?_
      refine g_goto C dL_go_17 (tgt := 24) (by decide) ?_
      refine g_iconst C dL_go_24 (v := 0) (by decide) ?_
      exact g_iretW C hr hQ (Nat.le_of_eq (Nat.zero_add _)) (Nat.le_of_eq (Nat.zero_add _)) dL_go_25 (Or.inl ⟨hc, rfl, rfl, rfl, by rw [← er, if_neg c]⟩)

set_option maxHeartbeats 1000000 in
set_option maxRecDepth 100000 in
theorem c_L_value (l : Launch) (D : va_G) (cy : Nat → ClassId) (A : Nat → Prop) (ad sad : Nat → Nat) (X M : XF) (K : KF) (p1 : Int32) (z : Nat) (hz : X 105 0 = nI z) (hzl : z ≤ 12) (ho : ∀ j : Nat, j < z → okAb (X 25 j) (X 26 j)) (hst : l.stackTraces = false) : Met l yL_value (wsH yL_value cL_value 4 (some .int) [(0, 9, 12, 35)]) ({ frames := 7, cells := 1, slots := 6, locals := 103 }) (PcL D cy A ad sad X M K [.ref (ad 0), .int p1, .ref (ad 74)]) (QiW D cy A ad (fun r X1 M1 K1 => (xk_b p1 (nI z) = 0 ∧ r = 0 ∧ X1 = X ∧ M1 = M ∧ K1 = kO K (cl_val X p1.toNatClampNeg : Int32).toInt64) ∨ (¬ xk_b p1 (nI z) = 0 ∧ r = xk_b p1 (nI z) ∧ X1 = X ∧ M1 = M ∧ K1 = K))) 1 6 A := by
  refine met_ofL [(0, .ref (ad 0)), (1, .int p1), (2, .ref (ad 74))] (by decide +kernel) (Nat.le_of_ble_eq_true rfl) rfl ?_
  intro G C hl hR hL hD hcy hA had hsa ht hN hr hQ
  subst hD hcy hA had hsa hl
  have hcode : xk_b p1 (nI z) = 0 ∨ xk_b p1 (nI z) = 1 := by
    unfold xk_b
    repeat' split
    all_goals first | exact Or.inl rfl | exact Or.inr (rfl)
  refine g_aload_n C dL_value_0 2 rfl ?_
  refine g_iconst C dL_value_1 (v := 0) (by decide) ?_
  refine g_aload_n C dL_value_2 0 rfl ?_
  refine g_iload_n C dL_value_3 1 rfl ?_
  refine g_tryi C (c_X10_value _ _ _ _ _ _ _ _ _ p1 z hz hzl ho hst) tw956 tw957 tw958 tw1 tw959 (rv_X10 C) rfl ⟨by decide +kernel, by decide +kernel, rfl⟩ ⟨rfl, rfl⟩ (by rw [hR]; exact ⟨Nat.le_of_ble_eq_true rfl, Nat.le_of_ble_eq_true rfl⟩) (Nat.le_of_ble_eq_true rfl) dL_value_4 (by rw [hR]; exact ⟨Nat.le_of_eq (Nat.zero_add _), Nat.le_of_eq (Nat.zero_add _)⟩) (fun E X1 M1 K1 hx => ?_) (fun r X1 M1 K1 hx => ?_)
  · obtain ⟨hc, hE, hX1, hM1, hK1⟩ := hx
    subst hE
    subst X1 M1 K1
    have h1 := hcode.resolve_left hc
    have e1 : xn "java/lang/IndexOutOfBoundsException" "java/lang/IndexOutOfBoundsException" "java/lang/IndexOutOfBoundsException" (xk_b p1 (nI z)) = "java/lang/IndexOutOfBoundsException" := by rw [h1]; decide
    rw [e1]
    refine g_catch C [] ⟨0, 9, 12, 35⟩ [] ht (fun z hz => absurd hz List.not_mem_nil) (by decide) (by decide) tw740 (by decide +kernel) rfl (fun q => ?_)
    refine g_astore_n C dL_value_12 (L' := [(3, .ref q), (0, .ref (gad G 0)), (1, .int p1), (2, .ref (gad G 74))]) rfl (by rw [hL]; decide) ?_
    refine g_iconst C dL_value_13 (v := 1) (by decide) ?_
    exact g_iretW C hr hQ (Nat.le_of_eq (Nat.zero_add _)) (Nat.le_of_eq (Nat.zero_add _)) dL_value_14 (Or.inr ⟨hc, h1.symm, rfl, rfl, rfl⟩)
  · obtain ⟨hc, er, hX1, hM1, hK1⟩ := hx
    subst X1 M1 K1
    refine g_i2l C dL_value_7 ?_
    refine as_74 C dL_value_8 ?_
    refine g_goto C dL_value_9 (tgt := 15) (by decide) ?_
    refine g_iconst C dL_value_15 (v := 0) (by decide) ?_
    exact g_iretW C hr hQ (Nat.le_of_eq (Nat.zero_add _)) (Nat.le_of_eq (Nat.zero_add _)) dL_value_16 (Or.inl ⟨hc, rfl, rfl, rfl, by rw [er]⟩)

set_option maxHeartbeats 1000000 in
set_option maxRecDepth 100000 in
theorem c_L_holdsFor (l : Launch) (D : va_G) (cy : Nat → ClassId) (A : Nat → Prop) (ad sad : Nat → Nat) (X M : XF) (K : KF) (p1 : Int32) (z : Nat) (hz : X 105 0 = nI z) (hzl : z ≤ 12) (hst : l.stackTraces = false) : Met l yL_holdsFor (wsH yL_holdsFor cL_holdsFor 4 (some .int) [(0, 9, 12, 35)]) ({ frames := 7, cells := 1, slots := 6, locals := 103 }) (PcL D cy A ad sad X M K [.ref (ad 0), .int p1, .ref (ad 74)]) (QiW D cy A ad (fun r X1 M1 K1 => (xk_b p1 (nI z) = 0 ∧ r = 0 ∧ X1 = X ∧ M1 = M ∧ K1 = kO K (X 31 p1.toNatClampNeg : Int32).toInt64) ∨ (¬ xk_b p1 (nI z) = 0 ∧ r = xk_b p1 (nI z) ∧ X1 = X ∧ M1 = M ∧ K1 = K))) 1 6 A := by
  refine met_ofL [(0, .ref (ad 0)), (1, .int p1), (2, .ref (ad 74))] (by decide +kernel) (Nat.le_of_ble_eq_true rfl) rfl ?_
  intro G C hl hR hL hD hcy hA had hsa ht hN hr hQ
  subst hD hcy hA had hsa hl
  have hcode : xk_b p1 (nI z) = 0 ∨ xk_b p1 (nI z) = 1 := by
    unfold xk_b
    repeat' split
    all_goals first | exact Or.inl rfl | exact Or.inr (rfl)
  refine g_aload_n C dL_holdsFor_0 2 rfl ?_
  refine g_iconst C dL_holdsFor_1 (v := 0) (by decide) ?_
  refine g_aload_n C dL_holdsFor_2 0 rfl ?_
  refine g_iload_n C dL_holdsFor_3 1 rfl ?_
  refine g_tryi C (c_X10_holdsFor _ _ _ _ _ _ _ _ _ p1 z hz hzl hst) tw967 tw968 tw969 tw1 tw970 (rv_X10 C) rfl ⟨by decide +kernel, by decide +kernel, rfl⟩ ⟨rfl, rfl⟩ (by rw [hR]; exact ⟨Nat.le_of_ble_eq_true rfl, Nat.le_of_ble_eq_true rfl⟩) (Nat.le_of_ble_eq_true rfl) dL_holdsFor_4 (by rw [hR]; exact ⟨Nat.le_of_eq (Nat.zero_add _), Nat.le_of_eq (Nat.zero_add _)⟩) (fun E X1 M1 K1 hx => ?_) (fun r X1 M1 K1 hx => ?_)
  · obtain ⟨hc, hE, hX1, hM1, hK1⟩ := hx
    subst hE
    subst X1 M1 K1
    have h1 := hcode.resolve_left hc
    have e1 : xn "java/lang/IndexOutOfBoundsException" "java/lang/IndexOutOfBoundsException" "java/lang/IndexOutOfBoundsException" (xk_b p1 (nI z)) = "java/lang/IndexOutOfBoundsException" := by rw [h1]; decide
    rw [e1]
    refine g_catch C [] ⟨0, 9, 12, 35⟩ [] ht (fun z hz => absurd hz List.not_mem_nil) (by decide) (by decide) tw740 (by decide +kernel) rfl (fun q => ?_)
    refine g_astore_n C dL_holdsFor_12 (L' := [(3, .ref q), (0, .ref (gad G 0)), (1, .int p1), (2, .ref (gad G 74))]) rfl (by rw [hL]; decide) ?_
    refine g_iconst C dL_holdsFor_13 (v := 1) (by decide) ?_
    exact g_iretW C hr hQ (Nat.le_of_eq (Nat.zero_add _)) (Nat.le_of_eq (Nat.zero_add _)) dL_holdsFor_14 (Or.inr ⟨hc, h1.symm, rfl, rfl, rfl⟩)
  · obtain ⟨hc, er, hX1, hM1, hK1⟩ := hx
    subst X1 M1 K1
    refine g_i2l C dL_holdsFor_7 ?_
    refine as_74 C dL_holdsFor_8 ?_
    refine g_goto C dL_holdsFor_9 (tgt := 15) (by decide) ?_
    refine g_iconst C dL_holdsFor_15 (v := 0) (by decide) ?_
    exact g_iretW C hr hQ (Nat.le_of_eq (Nat.zero_add _)) (Nat.le_of_eq (Nat.zero_add _)) dL_holdsFor_16 (Or.inl ⟨hc, rfl, rfl, rfl, by rw [er]⟩)

set_option maxHeartbeats 1000000 in
set_option maxRecDepth 100000 in
theorem c_L_isMet (l : Launch) (D : va_G) (cy : Nat → ClassId) (A : Nat → Prop) (ad sad : Nat → Nat) (X M : XF) (K : KF) (p1 : Int32) (z : Nat) (hz : X 105 0 = nI z) (hzl : z ≤ 12) (ho : ∀ j : Nat, j < z → okAb (X 25 j) (X 26 j)) (hst : l.stackTraces = false) : Met l yL_isMet (wsH yL_isMet cL_isMet 4 (some .int) [(0, 16, 19, 35)]) ({ frames := 7, cells := 1, slots := 6, locals := 114 }) (PcL D cy A ad sad X M K [.ref (ad 0), .int p1, .ref (ad 74)]) (QiW D cy A ad (fun r X1 M1 K1 => (xk_b p1 (nI z) = 0 ∧ r = 0 ∧ X1 = X ∧ M1 = M ∧ K1 = kO K (if (cl_met X p1.toNatClampNeg : Int32) = 0 then 0 else 1)) ∨ (¬ xk_b p1 (nI z) = 0 ∧ r = xk_b p1 (nI z) ∧ X1 = X ∧ M1 = M ∧ K1 = K))) 1 6 A := by
  refine met_ofL [(0, .ref (ad 0)), (1, .int p1), (2, .ref (ad 74))] (by decide +kernel) (Nat.le_of_ble_eq_true rfl) rfl ?_
  intro G C hl hR hL hD hcy hA had hsa ht hN hr hQ
  subst hD hcy hA had hsa hl
  have hcode : xk_b p1 (nI z) = 0 ∨ xk_b p1 (nI z) = 1 := by
    unfold xk_b
    repeat' split
    all_goals first | exact Or.inl rfl | exact Or.inr (rfl)
  refine g_aload_n C dL_isMet_0 2 rfl ?_
  refine g_iconst C dL_isMet_1 (v := 0) (by decide) ?_
  refine g_aload_n C dL_isMet_2 0 rfl ?_
  refine g_iload_n C dL_isMet_3 1 rfl ?_
  refine g_tryi C (c_X10_isMet _ _ _ _ _ _ _ _ _ p1 z hz hzl ho hst) tw974 tw975 tw976 tw1 tw977 (rv_X10 C) rfl ⟨by decide +kernel, by decide +kernel, rfl⟩ ⟨rfl, rfl⟩ (by rw [hR]; exact ⟨Nat.le_of_ble_eq_true rfl, Nat.le_of_ble_eq_true rfl⟩) (Nat.le_of_ble_eq_true rfl) dL_isMet_4 (by rw [hR]; exact ⟨Nat.le_of_eq (Nat.zero_add _), Nat.le_of_eq (Nat.zero_add _)⟩) (fun E X1 M1 K1 hx => ?_) (fun r X1 M1 K1 hx => ?_)
  · obtain ⟨hc, hE, hX1, hM1, hK1⟩ := hx
    subst hE
    subst X1 M1 K1
    have h1 := hcode.resolve_left hc
    have e1 : xn "java/lang/IndexOutOfBoundsException" "java/lang/IndexOutOfBoundsException" "java/lang/IndexOutOfBoundsException" (xk_b p1 (nI z)) = "java/lang/IndexOutOfBoundsException" := by rw [h1]; decide
    rw [e1]
    refine g_catch C [] ⟨0, 16, 19, 35⟩ [] ht (fun z hz => absurd hz List.not_mem_nil) (by decide) (by decide) tw740 (by decide +kernel) rfl (fun q => ?_)
    refine g_astore_n C dL_isMet_19 (L' := [(3, .ref q), (0, .ref (gad G 0)), (1, .int p1), (2, .ref (gad G 74))]) rfl (by rw [hL]; decide) ?_
    refine g_iconst C dL_isMet_20 (v := 1) (by decide) ?_
    exact g_iretW C hr hQ (Nat.le_of_eq (Nat.zero_add _)) (Nat.le_of_eq (Nat.zero_add _)) dL_isMet_21 (Or.inr ⟨hc, h1.symm, rfl, rfl, rfl⟩)
  · obtain ⟨hc, er, hX1, hM1, hK1⟩ := hx
    subst X1 M1 K1
    refine g_if_eq C dL_isMet_7 (tgt := 14) (by decide) (fun c => ?_) (fun c => ?_)
    · refine g_lconst C dL_isMet_14 (v := 0) (by decide) ?_
      refine as_74 C dL_isMet_15 ?_
      refine g_goto C dL_isMet_16 (tgt := 22) (by decide) ?_
      refine g_iconst C dL_isMet_22 (v := 0) (by decide) ?_
      exact g_iretW C hr hQ (Nat.le_of_eq (Nat.zero_add _)) (Nat.le_of_eq (Nat.zero_add _)) dL_isMet_23 (Or.inl ⟨hc, rfl, rfl, rfl, by rw [← er, if_pos c]⟩)
    · refine g_lconst C dL_isMet_10 (v := 1) (by decide) ?_
      refine g_goto C dL_isMet_11 (tgt := 15) (by decide) ?_
      refine as_74 C dL_isMet_15 ?_
      refine g_goto C dL_isMet_16 (tgt := 22) (by decide) ?_
      refine g_iconst C dL_isMet_22 (v := 0) (by decide) ?_
      exact g_iretW C hr hQ (Nat.le_of_eq (Nat.zero_add _)) (Nat.le_of_eq (Nat.zero_add _)) dL_isMet_23 (Or.inl ⟨hc, rfl, rfl, rfl, by rw [← er, if_neg c]⟩)

set_option maxHeartbeats 1000000 in
set_option maxRecDepth 100000 in
theorem c_L_begin (l : Launch) (D : va_G) (cy : Nat → ClassId) (A : Nat → Prop) (ad sad : Nat → Nat) (X M : XF) (K : KF) (p1 p2 p3 : Int32) (v z z5 z8 : Nat) (hs : okS v z z5 z8 X) (hzl : z ≤ 12) (h5 : z5 ≤ 6) (h8 : z8 ≤ 16) (hv : v < 999999) (h16 : 16 ≤ K.2.1 0) (hcap : (kLs K 0 v [67]).2.1 0 < 2 ^ 26) (hst : l.stackTraces = false) : Met l yL_begin (wsH yL_begin cL_begin 6 (some .int) [(0, 12, 15, 13), (0, 12, 19, 30)]) ({ frames := 8, cells := (kLs K 0 v [67]).2.1 4 - K.2.1 4 + 1, slots := (kLs K 0 v [67]).2.1 6 - K.2.1 6 + 6, locals := 236 }) (PcL D cy A ad sad X M K [.ref (ad 0), .int p1, .int p2, .int p3, .ref (ad 74)]) (QiW D cy A ad (fun r X1 M1 K1 => (xk_begin (X 118 0) p1 p2 p3 = 0 ∧ r = 0 ∧ X1 = bg_X z z8 p1 p2 p3 X ∧ M1 = M ∧ K1 = kO (kLs K 0 v [67]) (X 101 0 - p1 : Int32).toInt64) ∨ (¬ xk_begin (X 118 0) p1 p2 p3 = 0 ∧ r = xk_begin (X 118 0) p1 p2 p3 ∧ X1 = X ∧ M1 = M ∧ K1 = K))) ((kLs K 0 v [67]).2.1 4 - K.2.1 4 + 1) ((kLs K 0 v [67]).2.1 6 - K.2.1 6 + 6) A := by
  refine met_ofL [(0, .ref (ad 0)), (1, .int p1), (2, .int p2), (3, .int p3), (4, .ref (ad 74))] (by decide +kernel) (Nat.le_of_ble_eq_true rfl) rfl ?_
  intro G C hl hR hL hD hcy hA had hsa ht hN hr hQ
  subst hD hcy hA had hsa hl
  have hcode : xk_begin (X 118 0) p1 p2 p3 = 0 ∨ xk_begin (X 118 0) p1 p2 p3 = 1 ∨ xk_begin (X 118 0) p1 p2 p3 = 2 := by
    unfold xk_begin
    repeat' split
    all_goals first | exact Or.inl rfl | exact Or.inr (Or.inl rfl) | exact Or.inr (Or.inr (rfl))
  refine g_aload C dL_begin_0 4 rfl ?_
  refine g_iconst C dL_begin_2 (v := 0) (by decide) ?_
  refine g_aload_n C dL_begin_3 0 rfl ?_
  refine g_iload_n C dL_begin_4 1 rfl ?_
  refine g_iload_n C dL_begin_5 2 rfl ?_
  refine g_iload_n C dL_begin_6 3 rfl ?_
  refine g_tryi C (c_X10_begin _ _ _ _ _ _ _ _ _ p1 p2 p3 v z z5 z8 hs hzl h5 h8 hv h16 hcap hst) tw993 tw994 tw995 tw1 tw996 (rv_X10 C) rfl ⟨by decide +kernel, by decide +kernel, rfl⟩ ⟨rfl, rfl⟩ (by rw [hR]; exact ⟨Nat.le_of_ble_eq_true rfl, Nat.le_of_ble_eq_true rfl⟩) (Nat.le_of_ble_eq_true rfl) dL_begin_7 (by rw [hR]; exact ⟨Nat.le_of_eq (Nat.zero_add _), Nat.le_of_eq (Nat.zero_add _)⟩) (fun E X1 M1 K1 hx => ?_) (fun r X1 M1 K1 hx => ?_)
  · obtain ⟨hc, hE, hX1, hM1, hK1⟩ := hx
    subst hE
    subst X1 M1 K1
    rcases hcode.resolve_left hc with h1 | h1
    · have e1 : xn "java/lang/IllegalArgumentException" "java/lang/IllegalStateException" "java/lang/IllegalStateException" (xk_begin (X 118 0) p1 p2 p3) = "java/lang/IllegalArgumentException" := by rw [h1]; decide
      rw [e1]
      refine g_catch C [] ⟨0, 12, 15, 13⟩ [⟨0, 12, 19, 30⟩] ht (fun z hz => absurd hz List.not_mem_nil) (by decide) (by decide) tw591 (by decide +kernel) rfl (fun q => ?_)
      refine g_astore C dL_begin_15 (L' := [(5, .ref q), (0, .ref (gad G 0)), (1, .int p1), (2, .int p2), (3, .int p3), (4, .ref (gad G 74))]) rfl (by rw [hL]; decide) ?_
      refine g_iconst C dL_begin_17 (v := 1) (by decide) ?_
      exact g_iretW C hr hQ (Nat.le_of_eq (Nat.zero_add _)) (Nat.le_of_eq (Nat.zero_add _)) dL_begin_18 (Or.inr ⟨hc, h1.symm, rfl, rfl, rfl⟩)
    · have e1 : xn "java/lang/IllegalArgumentException" "java/lang/IllegalStateException" "java/lang/IllegalStateException" (xk_begin (X 118 0) p1 p2 p3) = "java/lang/IllegalStateException" := by rw [h1]; decide
      rw [e1]
      refine g_catch C [⟨0, 12, 15, 13⟩] ⟨0, 12, 19, 30⟩ [] ht (fun z hz => by rw [List.mem_singleton.mp hz]; exact ⟨by decide, "java/lang/IllegalArgumentException", tw591, hN ("java/lang/IllegalStateException", "java/lang/IllegalArgumentException") (by decide)⟩) (by decide) (by decide) tw707 (by decide +kernel) rfl (fun q => ?_)
      refine g_astore C dL_begin_19 (L' := [(5, .ref q), (0, .ref (gad G 0)), (1, .int p1), (2, .int p2), (3, .int p3), (4, .ref (gad G 74))]) rfl (by rw [hL]; decide) ?_
      refine g_iconst C dL_begin_21 (v := 2) (by decide) ?_
      exact g_iretW C hr hQ (Nat.le_of_eq (Nat.zero_add _)) (Nat.le_of_eq (Nat.zero_add _)) dL_begin_22 (Or.inr ⟨hc, h1.symm, rfl, rfl, rfl⟩)
  · obtain ⟨hc, er, hX1, hM1, hK1⟩ := hx
    subst X1 M1 K1
    refine g_i2l C dL_begin_10 ?_
    refine as_74 C dL_begin_11 ?_
    refine g_goto C dL_begin_12 (tgt := 23) (by decide) ?_
    refine g_iconst C dL_begin_23 (v := 0) (by decide) ?_
    exact g_iretW C hr hQ (Nat.le_of_eq (Nat.zero_add _)) (Nat.le_of_eq (Nat.zero_add _)) dL_begin_24 (Or.inl ⟨hc, rfl, rfl, rfl, by rw [er]⟩)

set_option maxHeartbeats 1000000 in
set_option maxRecDepth 100000 in
theorem c_L_recycle (l : Launch) (D : va_G) (cy : Nat → ClassId) (A : Nat → Prop) (ad sad : Nat → Nat) (X M : XF) (K : KF) (p1 : Int32) (v z z5 z8 : Nat) (hs : okS v z z5 z8 X) (hzl : z ≤ 12) (h5 : z5 ≤ 6) (h8 : z8 ≤ 16) (hv : v < 999999) (h16 : 16 ≤ K.2.1 0) (hcap : (kLs K 0 v [82]).2.1 0 < 2 ^ 26) (hst : l.stackTraces = false) : Met l yL_recycle (wsH yL_recycle cL_recycle 4 (some .int) [(0, 9, 12, 35), (0, 9, 15, 45)]) ({ frames := 8, cells := (kLs K 0 v [82]).2.1 4 - K.2.1 4 + 1, slots := (kLs K 0 v [82]).2.1 6 - K.2.1 6 + 6, locals := 234 }) (PcL D cy A ad sad X M K [.ref (ad 0), .int p1, .ref (ad 74)]) (QiW D cy A ad (fun r X1 M1 K1 => (xk_rec (X 14) z5 (X 118 0) (X 106 0) p1 = 0 ∧ r = 0 ∧ X1 = rc_X z z8 p1.toNatClampNeg X ∧ M1 = M ∧ K1 = kO (kLs K 0 v [82]) (sp_undoN (X 8) (X 12) (X 14 p1.toNatClampNeg) z8 : Int32).toInt64) ∨ (¬ xk_rec (X 14) z5 (X 118 0) (X 106 0) p1 = 0 ∧ r = xk_rec (X 14) z5 (X 118 0) (X 106 0) p1 ∧ X1 = X ∧ M1 = M ∧ K1 = K))) ((kLs K 0 v [82]).2.1 4 - K.2.1 4 + 1) ((kLs K 0 v [82]).2.1 6 - K.2.1 6 + 6) A := by
  refine met_ofL [(0, .ref (ad 0)), (1, .int p1), (2, .ref (ad 74))] (by decide +kernel) (Nat.le_of_ble_eq_true rfl) rfl ?_
  intro G C hl hR hL hD hcy hA had hsa ht hN hr hQ
  subst hD hcy hA had hsa hl
  have hcode : xk_rec (X 14) z5 (X 118 0) (X 106 0) p1 = 0 ∨ xk_rec (X 14) z5 (X 118 0) (X 106 0) p1 = 1 ∨ xk_rec (X 14) z5 (X 118 0) (X 106 0) p1 = 2 := by
    unfold xk_rec
    repeat' split
    all_goals first | exact Or.inl rfl | exact Or.inr (Or.inl rfl) | exact Or.inr (Or.inr (rfl))
  refine g_aload_n C dL_recycle_0 2 rfl ?_
  refine g_iconst C dL_recycle_1 (v := 0) (by decide) ?_
  refine g_aload_n C dL_recycle_2 0 rfl ?_
  refine g_iload_n C dL_recycle_3 1 rfl ?_
  refine g_tryi C (c_X10_recycle _ _ _ _ _ _ _ _ _ p1 v z z5 z8 hs hzl h5 h8 hv h16 hcap hst) tw1013 tw1014 tw1015 tw1 tw1016 (rv_X10 C) rfl ⟨by decide +kernel, by decide +kernel, rfl⟩ ⟨rfl, rfl⟩ (by rw [hR]; exact ⟨Nat.le_of_ble_eq_true rfl, Nat.le_of_ble_eq_true rfl⟩) (Nat.le_of_ble_eq_true rfl) dL_recycle_4 (by rw [hR]; exact ⟨Nat.le_of_eq (Nat.zero_add _), Nat.le_of_eq (Nat.zero_add _)⟩) (fun E X1 M1 K1 hx => ?_) (fun r X1 M1 K1 hx => ?_)
  · obtain ⟨hc, hE, hX1, hM1, hK1⟩ := hx
    subst hE
    subst X1 M1 K1
    rcases hcode.resolve_left hc with h1 | h1
    · have e1 : xn "java/lang/IndexOutOfBoundsException" "java/lang/UnsupportedOperationException" "java/lang/UnsupportedOperationException" (xk_rec (X 14) z5 (X 118 0) (X 106 0) p1) = "java/lang/IndexOutOfBoundsException" := by rw [h1]; decide
      rw [e1]
      refine g_catch C [] ⟨0, 9, 12, 35⟩ [⟨0, 9, 15, 45⟩] ht (fun z hz => absurd hz List.not_mem_nil) (by decide) (by decide) tw740 (by decide +kernel) rfl (fun q => ?_)
      refine g_astore_n C dL_recycle_12 (L' := [(3, .ref q), (0, .ref (gad G 0)), (1, .int p1), (2, .ref (gad G 74))]) rfl (by rw [hL]; decide) ?_
      refine g_iconst C dL_recycle_13 (v := 1) (by decide) ?_
      exact g_iretW C hr hQ (Nat.le_of_eq (Nat.zero_add _)) (Nat.le_of_eq (Nat.zero_add _)) dL_recycle_14 (Or.inr ⟨hc, h1.symm, rfl, rfl, rfl⟩)
    · have e1 : xn "java/lang/IndexOutOfBoundsException" "java/lang/UnsupportedOperationException" "java/lang/UnsupportedOperationException" (xk_rec (X 14) z5 (X 118 0) (X 106 0) p1) = "java/lang/UnsupportedOperationException" := by rw [h1]; decide
      rw [e1]
      refine g_catch C [⟨0, 9, 12, 35⟩] ⟨0, 9, 15, 45⟩ [] ht (fun z hz => by rw [List.mem_singleton.mp hz]; exact ⟨by decide, "java/lang/IndexOutOfBoundsException", tw740, hN ("java/lang/UnsupportedOperationException", "java/lang/IndexOutOfBoundsException") (by decide)⟩) (by decide) (by decide) tw803 (by decide +kernel) rfl (fun q => ?_)
      refine g_astore_n C dL_recycle_15 (L' := [(3, .ref q), (0, .ref (gad G 0)), (1, .int p1), (2, .ref (gad G 74))]) rfl (by rw [hL]; decide) ?_
      refine g_iconst C dL_recycle_16 (v := 2) (by decide) ?_
      exact g_iretW C hr hQ (Nat.le_of_eq (Nat.zero_add _)) (Nat.le_of_eq (Nat.zero_add _)) dL_recycle_17 (Or.inr ⟨hc, h1.symm, rfl, rfl, rfl⟩)
  · obtain ⟨hc, er, hX1, hM1, hK1⟩ := hx
    subst X1 M1 K1
    refine g_i2l C dL_recycle_7 ?_
    refine as_74 C dL_recycle_8 ?_
    refine g_goto C dL_recycle_9 (tgt := 18) (by decide) ?_
    refine g_iconst C dL_recycle_18 (v := 0) (by decide) ?_
    exact g_iretW C hr hQ (Nat.le_of_eq (Nat.zero_add _)) (Nat.le_of_eq (Nat.zero_add _)) dL_recycle_19 (Or.inl ⟨hc, rfl, rfl, rfl, by rw [er]⟩)

set_option maxHeartbeats 1000000 in
set_option maxRecDepth 100000 in
theorem c_L_track (l : Launch) (D : va_G) (cy : Nat → ClassId) (A : Nat → Prop) (ad sad : Nat → Nat) (X M : XF) (K : KF) (p1 p2 : Int32) (hst : l.stackTraces = false) : Met l yL_track (wsH yL_track cL_track 5 (some .int) [(0, 10, 13, 13)]) ({ frames := 7, cells := 1, slots := 6, locals := 105 }) (PcL D cy A ad sad X M K [.ref (ad 0), .int p1, .int p2, .ref (ad 74)]) (QiW D cy A ad (fun r X1 M1 K1 => (xk_track p1 p2 = 0 ∧ r = 0 ∧ X1 = sa X 37 (upd (X 37) p1.toNatClampNeg p2) ∧ M1 = M ∧ K1 = kO K (X 37 p1.toNatClampNeg : Int32).toInt64) ∨ (¬ xk_track p1 p2 = 0 ∧ r = xk_track p1 p2 ∧ X1 = X ∧ M1 = M ∧ K1 = K))) 1 6 A := by
  refine met_ofL [(0, .ref (ad 0)), (1, .int p1), (2, .int p2), (3, .ref (ad 74))] (by decide +kernel) (Nat.le_of_ble_eq_true rfl) rfl ?_
  intro G C hl hR hL hD hcy hA had hsa ht hN hr hQ
  subst hD hcy hA had hsa hl
  have hcode : xk_track p1 p2 = 0 ∨ xk_track p1 p2 = 1 := by
    unfold xk_track
    repeat' split
    all_goals first | exact Or.inl rfl | exact Or.inr (rfl)
  refine g_aload_n C dL_track_0 3 rfl ?_
  refine g_iconst C dL_track_1 (v := 0) (by decide) ?_
  refine g_aload_n C dL_track_2 0 rfl ?_
  refine g_iload_n C dL_track_3 1 rfl ?_
  refine g_iload_n C dL_track_4 2 rfl ?_
  refine g_tryi C (c_X10_track _ _ _ _ _ _ _ _ _ p1 p2 hst) tw1131 tw1132 tw1133 tw1 tw1134 (rv_X10 C) rfl ⟨by decide +kernel, by decide +kernel, rfl⟩ ⟨rfl, rfl⟩ (by rw [hR]; exact ⟨Nat.le_of_ble_eq_true rfl, Nat.le_of_ble_eq_true rfl⟩) (Nat.le_of_ble_eq_true rfl) dL_track_5 (by rw [hR]; exact ⟨Nat.le_of_eq (Nat.zero_add _), Nat.le_of_eq (Nat.zero_add _)⟩) (fun E X1 M1 K1 hx => ?_) (fun r X1 M1 K1 hx => ?_)
  · obtain ⟨hc, hE, hX1, hM1, hK1⟩ := hx
    subst hE
    subst X1 M1 K1
    have h1 := hcode.resolve_left hc
    have e1 : xn "java/lang/IllegalArgumentException" "java/lang/IllegalArgumentException" "java/lang/IllegalArgumentException" (xk_track p1 p2) = "java/lang/IllegalArgumentException" := by rw [h1]; decide
    rw [e1]
    refine g_catch C [] ⟨0, 10, 13, 13⟩ [] ht (fun z hz => absurd hz List.not_mem_nil) (by decide) (by decide) tw591 (by decide +kernel) rfl (fun q => ?_)
    refine g_astore C dL_track_13 (L' := [(4, .ref q), (0, .ref (gad G 0)), (1, .int p1), (2, .int p2), (3, .ref (gad G 74))]) rfl (by rw [hL]; decide) ?_
    refine g_iconst C dL_track_15 (v := 1) (by decide) ?_
    exact g_iretW C hr hQ (Nat.le_of_eq (Nat.zero_add _)) (Nat.le_of_eq (Nat.zero_add _)) dL_track_16 (Or.inr ⟨hc, h1.symm, rfl, rfl, rfl⟩)
  · obtain ⟨hc, er, hX1, hM1, hK1⟩ := hx
    subst X1 M1 K1
    refine g_i2l C dL_track_8 ?_
    refine as_74 C dL_track_9 ?_
    refine g_goto C dL_track_10 (tgt := 17) (by decide) ?_
    refine g_iconst C dL_track_17 (v := 0) (by decide) ?_
    exact g_iretW C hr hQ (Nat.le_of_eq (Nat.zero_add _)) (Nat.le_of_eq (Nat.zero_add _)) dL_track_18 (Or.inl ⟨hc, rfl, rfl, rfl, by rw [er]⟩)

set_option maxHeartbeats 1000000 in
set_option maxRecDepth 100000 in
theorem c_L_count (l : Launch) (D : va_G) (cy : Nat → ClassId) (A : Nat → Prop) (ad sad : Nat → Nat) (X M : XF) (K : KF) (hst : l.stackTraces = false) : Met l yL_count (wsH yL_count cL_count 3 (some .int) [(0, 8, 11, 30)]) ({ frames := 7, cells := 1, slots := 6, locals := 102 }) (PcL D cy A ad sad X M K [.ref (ad 0), .ref (ad 74)]) (QiW D cy A ad (fun r X1 M1 K1 => (xk_beg (X 118 0) = 0 ∧ r = 0 ∧ X1 = X ∧ M1 = M ∧ K1 = kO K (X 106 0 : Int32).toInt64) ∨ (¬ xk_beg (X 118 0) = 0 ∧ r = xk_beg (X 118 0) ∧ X1 = X ∧ M1 = M ∧ K1 = K))) 1 6 A := by
  refine met_ofL [(0, .ref (ad 0)), (1, .ref (ad 74))] (by decide +kernel) (Nat.le_of_ble_eq_true rfl) rfl ?_
  intro G C hl hR hL hD hcy hA had hsa ht hN hr hQ
  subst hD hcy hA had hsa hl
  have hcode : xk_beg (X 118 0) = 0 ∨ xk_beg (X 118 0) = 1 := by
    unfold xk_beg
    repeat' split
    all_goals first | exact Or.inl rfl | exact Or.inr (rfl)
  refine g_aload_n C dL_count_0 1 rfl ?_
  refine g_iconst C dL_count_1 (v := 0) (by decide) ?_
  refine g_aload_n C dL_count_2 0 rfl ?_
  refine g_tryi C (c_X10_count _ _ _ _ _ _ _ _ _ hst) tw1138 tw1139 tw1140 tw1 tw1141 (rv_X10 C) rfl ⟨by decide +kernel, by decide +kernel, rfl⟩ ⟨rfl, rfl⟩ (by rw [hR]; exact ⟨Nat.le_of_ble_eq_true rfl, Nat.le_of_ble_eq_true rfl⟩) (Nat.le_of_ble_eq_true rfl) dL_count_3 (by rw [hR]; exact ⟨Nat.le_of_eq (Nat.zero_add _), Nat.le_of_eq (Nat.zero_add _)⟩) (fun E X1 M1 K1 hx => ?_) (fun r X1 M1 K1 hx => ?_)
  · obtain ⟨hc, hE, hX1, hM1, hK1⟩ := hx
    subst hE
    subst X1 M1 K1
    have h1 := hcode.resolve_left hc
    have e1 : xn "java/lang/IllegalStateException" "java/lang/IllegalStateException" "java/lang/IllegalStateException" (xk_beg (X 118 0)) = "java/lang/IllegalStateException" := by rw [h1]; decide
    rw [e1]
    refine g_catch C [] ⟨0, 8, 11, 30⟩ [] ht (fun z hz => absurd hz List.not_mem_nil) (by decide) (by decide) tw707 (by decide +kernel) rfl (fun q => ?_)
    refine g_astore_n C dL_count_11 (L' := [(2, .ref q), (0, .ref (gad G 0)), (1, .ref (gad G 74))]) rfl (by rw [hL]; decide) ?_
    refine g_iconst C dL_count_12 (v := 1) (by decide) ?_
    exact g_iretW C hr hQ (Nat.le_of_eq (Nat.zero_add _)) (Nat.le_of_eq (Nat.zero_add _)) dL_count_13 (Or.inr ⟨hc, h1.symm, rfl, rfl, rfl⟩)
  · obtain ⟨hc, er, hX1, hM1, hK1⟩ := hx
    subst X1 M1 K1
    refine g_i2l C dL_count_6 ?_
    refine as_74 C dL_count_7 ?_
    refine g_goto C dL_count_8 (tgt := 14) (by decide) ?_
    refine g_iconst C dL_count_14 (v := 0) (by decide) ?_
    exact g_iretW C hr hQ (Nat.le_of_eq (Nat.zero_add _)) (Nat.le_of_eq (Nat.zero_add _)) dL_count_15 (Or.inl ⟨hc, rfl, rfl, rfl, by rw [er]⟩)

set_option maxHeartbeats 1000000 in
set_option maxRecDepth 100000 in
theorem c_L_holds (l : Launch) (D : va_G) (cy : Nat → ClassId) (A : Nat → Prop) (ad sad : Nat → Nat) (X M : XF) (K : KF) (hst : l.stackTraces = false) : Met l yL_holds (wsH yL_holds cL_holds 3 (some .int) [(0, 8, 11, 30)]) ({ frames := 7, cells := 1, slots := 6, locals := 102 }) (PcL D cy A ad sad X M K [.ref (ad 0), .ref (ad 74)]) (QiW D cy A ad (fun r X1 M1 K1 => (xk_beg (X 118 0) = 0 ∧ r = 0 ∧ X1 = X ∧ M1 = M ∧ K1 = kO K (X 109 0 : Int32).toInt64) ∨ (¬ xk_beg (X 118 0) = 0 ∧ r = xk_beg (X 118 0) ∧ X1 = X ∧ M1 = M ∧ K1 = K))) 1 6 A := by
  refine met_ofL [(0, .ref (ad 0)), (1, .ref (ad 74))] (by decide +kernel) (Nat.le_of_ble_eq_true rfl) rfl ?_
  intro G C hl hR hL hD hcy hA had hsa ht hN hr hQ
  subst hD hcy hA had hsa hl
  have hcode : xk_beg (X 118 0) = 0 ∨ xk_beg (X 118 0) = 1 := by
    unfold xk_beg
    repeat' split
    all_goals first | exact Or.inl rfl | exact Or.inr (rfl)
  refine g_aload_n C dL_holds_0 1 rfl ?_
  refine g_iconst C dL_holds_1 (v := 0) (by decide) ?_
  refine g_aload_n C dL_holds_2 0 rfl ?_
  refine g_tryi C (c_X10_holds _ _ _ _ _ _ _ _ _ hst) tw1146 tw1147 tw1148 tw1 tw1149 (rv_X10 C) rfl ⟨by decide +kernel, by decide +kernel, rfl⟩ ⟨rfl, rfl⟩ (by rw [hR]; exact ⟨Nat.le_of_ble_eq_true rfl, Nat.le_of_ble_eq_true rfl⟩) (Nat.le_of_ble_eq_true rfl) dL_holds_3 (by rw [hR]; exact ⟨Nat.le_of_eq (Nat.zero_add _), Nat.le_of_eq (Nat.zero_add _)⟩) (fun E X1 M1 K1 hx => ?_) (fun r X1 M1 K1 hx => ?_)
  · obtain ⟨hc, hE, hX1, hM1, hK1⟩ := hx
    subst hE
    subst X1 M1 K1
    have h1 := hcode.resolve_left hc
    have e1 : xn "java/lang/IllegalStateException" "java/lang/IllegalStateException" "java/lang/IllegalStateException" (xk_beg (X 118 0)) = "java/lang/IllegalStateException" := by rw [h1]; decide
    rw [e1]
    refine g_catch C [] ⟨0, 8, 11, 30⟩ [] ht (fun z hz => absurd hz List.not_mem_nil) (by decide) (by decide) tw707 (by decide +kernel) rfl (fun q => ?_)
    refine g_astore_n C dL_holds_11 (L' := [(2, .ref q), (0, .ref (gad G 0)), (1, .ref (gad G 74))]) rfl (by rw [hL]; decide) ?_
    refine g_iconst C dL_holds_12 (v := 1) (by decide) ?_
    exact g_iretW C hr hQ (Nat.le_of_eq (Nat.zero_add _)) (Nat.le_of_eq (Nat.zero_add _)) dL_holds_13 (Or.inr ⟨hc, h1.symm, rfl, rfl, rfl⟩)
  · obtain ⟨hc, er, hX1, hM1, hK1⟩ := hx
    subst X1 M1 K1
    refine g_i2l C dL_holds_6 ?_
    refine as_74 C dL_holds_7 ?_
    refine g_goto C dL_holds_8 (tgt := 14) (by decide) ?_
    refine g_iconst C dL_holds_14 (v := 0) (by decide) ?_
    exact g_iretW C hr hQ (Nat.le_of_eq (Nat.zero_add _)) (Nat.le_of_eq (Nat.zero_add _)) dL_holds_15 (Or.inl ⟨hc, rfl, rfl, rfl, by rw [er]⟩)

set_option maxHeartbeats 1000000 in
set_option maxRecDepth 100000 in
theorem c_L_cause (l : Launch) (D : va_G) (cy : Nat → ClassId) (A : Nat → Prop) (ad sad : Nat → Nat) (X M : XF) (K : KF) (hc : isCh (X 111 0)) (hst : l.stackTraces = false) : Met l yL_cause (wsH yL_cause cL_cause 3 (some .int) [(0, 8, 11, 111)]) ({ frames := 7, cells := 1, slots := 6, locals := 102 }) (PcL D cy A ad sad X M K [.ref (ad 0), .ref (ad 74)]) (QiW D cy A ad (fun r X1 M1 K1 => (xk_cau (X 118 0) = 0 ∧ r = 0 ∧ X1 = X ∧ M1 = M ∧ K1 = kO K (X 111 0 : Int32).toInt64) ∨ (¬ xk_cau (X 118 0) = 0 ∧ r = xk_cau (X 118 0) ∧ X1 = X ∧ M1 = M ∧ K1 = K))) 1 6 A := by
  refine met_ofL [(0, .ref (ad 0)), (1, .ref (ad 74))] (by decide +kernel) (Nat.le_of_ble_eq_true rfl) rfl ?_
  intro G C hl hR hL hD hcy hA had hsa ht hN hr hQ
  subst hD hcy hA had hsa hl
  have hcode : xk_cau (X 118 0) = 0 ∨ xk_cau (X 118 0) = 1 := by
    unfold xk_cau
    repeat' split
    all_goals first | exact Or.inl rfl | exact Or.inr (rfl)
  refine g_aload_n C dL_cause_0 1 rfl ?_
  refine g_iconst C dL_cause_1 (v := 0) (by decide) ?_
  refine g_aload_n C dL_cause_2 0 rfl ?_
  refine g_tryi C (c_X10_cause _ _ _ _ _ _ _ _ _ hc hst) tw1154 tw1155 tw1156 tw1 tw1157 (rv_X10 C) rfl ⟨by decide +kernel, by decide +kernel, rfl⟩ ⟨rfl, rfl⟩ (by rw [hR]; exact ⟨Nat.le_of_ble_eq_true rfl, Nat.le_of_ble_eq_true rfl⟩) (Nat.le_of_ble_eq_true rfl) dL_cause_3 (by rw [hR]; exact ⟨Nat.le_of_eq (Nat.zero_add _), Nat.le_of_eq (Nat.zero_add _)⟩) (fun E X1 M1 K1 hx => ?_) (fun r X1 M1 K1 hx => ?_)
  · obtain ⟨hc, hE, hX1, hM1, hK1⟩ := hx
    subst hE
    subst X1 M1 K1
    have h1 := hcode.resolve_left hc
    have e1 : xn "java/util/NoSuchElementException" "java/util/NoSuchElementException" "java/util/NoSuchElementException" (xk_cau (X 118 0)) = "java/util/NoSuchElementException" := by rw [h1]; decide
    rw [e1]
    refine g_catch C [] ⟨0, 8, 11, 111⟩ [] ht (fun z hz => absurd hz List.not_mem_nil) (by decide) (by decide) tw1153 (by decide +kernel) rfl (fun q => ?_)
    refine g_astore_n C dL_cause_11 (L' := [(2, .ref q), (0, .ref (gad G 0)), (1, .ref (gad G 74))]) rfl (by rw [hL]; decide) ?_
    refine g_iconst C dL_cause_12 (v := 1) (by decide) ?_
    exact g_iretW C hr hQ (Nat.le_of_eq (Nat.zero_add _)) (Nat.le_of_eq (Nat.zero_add _)) dL_cause_13 (Or.inr ⟨hc, h1.symm, rfl, rfl, rfl⟩)
  · obtain ⟨hc, er, hX1, hM1, hK1⟩ := hx
    subst X1 M1 K1
    refine g_i2l C dL_cause_6 ?_
    refine as_74 C dL_cause_7 ?_
    refine g_goto C dL_cause_8 (tgt := 14) (by decide) ?_
    refine g_iconst C dL_cause_14 (v := 0) (by decide) ?_
    exact g_iretW C hr hQ (Nat.le_of_eq (Nat.zero_add _)) (Nat.le_of_eq (Nat.zero_add _)) dL_cause_15 (Or.inl ⟨hc, rfl, rfl, rfl, by rw [er]⟩)

set_option maxHeartbeats 1000000 in
set_option maxRecDepth 100000 in
theorem c_L_causeRule (l : Launch) (D : va_G) (cy : Nat → ClassId) (A : Nat → Prop) (ad sad : Nat → Nat) (X M : XF) (K : KF) (hst : l.stackTraces = false) : Met l yL_causeRule (wsH yL_causeRule cL_causeRule 3 (some .int) [(0, 8, 11, 111)]) ({ frames := 7, cells := 1, slots := 6, locals := 102 }) (PcL D cy A ad sad X M K [.ref (ad 0), .ref (ad 74)]) (QiW D cy A ad (fun r X1 M1 K1 => (xk_car (X 118 0) (X 112 0) = 0 ∧ r = 0 ∧ X1 = X ∧ M1 = M ∧ K1 = kO K (X 112 0 : Int32).toInt64) ∨ (¬ xk_car (X 118 0) (X 112 0) = 0 ∧ r = xk_car (X 118 0) (X 112 0) ∧ X1 = X ∧ M1 = M ∧ K1 = K))) 1 6 A := by
  refine met_ofL [(0, .ref (ad 0)), (1, .ref (ad 74))] (by decide +kernel) (Nat.le_of_ble_eq_true rfl) rfl ?_
  intro G C hl hR hL hD hcy hA had hsa ht hN hr hQ
  subst hD hcy hA had hsa hl
  have hcode : xk_car (X 118 0) (X 112 0) = 0 ∨ xk_car (X 118 0) (X 112 0) = 1 := by
    unfold xk_car
    repeat' split
    all_goals first | exact Or.inl rfl | exact Or.inr (rfl)
  refine g_aload_n C dL_causeRule_0 1 rfl ?_
  refine g_iconst C dL_causeRule_1 (v := 0) (by decide) ?_
  refine g_aload_n C dL_causeRule_2 0 rfl ?_
  refine g_tryi C (c_X10_causeRule _ _ _ _ _ _ _ _ _ hst) tw1181 tw1182 tw1183 tw1 tw1184 (rv_X10 C) rfl ⟨by decide +kernel, by decide +kernel, rfl⟩ ⟨rfl, rfl⟩ (by rw [hR]; exact ⟨Nat.le_of_ble_eq_true rfl, Nat.le_of_ble_eq_true rfl⟩) (Nat.le_of_ble_eq_true rfl) dL_causeRule_3 (by rw [hR]; exact ⟨Nat.le_of_eq (Nat.zero_add _), Nat.le_of_eq (Nat.zero_add _)⟩) (fun E X1 M1 K1 hx => ?_) (fun r X1 M1 K1 hx => ?_)
  · obtain ⟨hc, hE, hX1, hM1, hK1⟩ := hx
    subst hE
    subst X1 M1 K1
    have h1 := hcode.resolve_left hc
    have e1 : xn "java/util/NoSuchElementException" "java/util/NoSuchElementException" "java/util/NoSuchElementException" (xk_car (X 118 0) (X 112 0)) = "java/util/NoSuchElementException" := by rw [h1]; decide
    rw [e1]
    refine g_catch C [] ⟨0, 8, 11, 111⟩ [] ht (fun z hz => absurd hz List.not_mem_nil) (by decide) (by decide) tw1153 (by decide +kernel) rfl (fun q => ?_)
    refine g_astore_n C dL_causeRule_11 (L' := [(2, .ref q), (0, .ref (gad G 0)), (1, .ref (gad G 74))]) rfl (by rw [hL]; decide) ?_
    refine g_iconst C dL_causeRule_12 (v := 1) (by decide) ?_
    exact g_iretW C hr hQ (Nat.le_of_eq (Nat.zero_add _)) (Nat.le_of_eq (Nat.zero_add _)) dL_causeRule_13 (Or.inr ⟨hc, h1.symm, rfl, rfl, rfl⟩)
  · obtain ⟨hc, er, hX1, hM1, hK1⟩ := hx
    subst X1 M1 K1
    refine g_i2l C dL_causeRule_6 ?_
    refine as_74 C dL_causeRule_7 ?_
    refine g_goto C dL_causeRule_8 (tgt := 14) (by decide) ?_
    refine g_iconst C dL_causeRule_14 (v := 0) (by decide) ?_
    exact g_iretW C hr hQ (Nat.le_of_eq (Nat.zero_add _)) (Nat.le_of_eq (Nat.zero_add _)) dL_causeRule_15 (Or.inl ⟨hc, rfl, rfl, rfl, by rw [er]⟩)

set_option maxHeartbeats 1000000 in
set_option maxRecDepth 100000 in
theorem c_L_logAt (l : Launch) (D : va_G) (cy : Nat → ClassId) (A : Nat → Prop) (ad sad : Nat → Nat) (X M : XF) (K : KF) (p1 : Int32) (hcap : K.2.1 0 < 2 ^ 26) (hlen : (K.2.2.1 0).length < 2 ^ 26) (hch : ∀ j : Nat, (K.2.2.1 0).getD j 0 < 128) (hst : l.stackTraces = false) : Met l yL_logAt (wsH yL_logAt cL_logAt 4 (some .int) [(0, 9, 12, 35)]) ({ frames := 7, cells := 1, slots := 6, locals := 109 }) (PcL D cy A ad sad X M K [.ref (ad 0), .int p1, .ref (ad 74)]) (QiW D cy A ad (fun r X1 M1 K1 => (xk_b p1 (nI (K.2.2.1 0).length) = 0 ∧ r = 0 ∧ X1 = X ∧ M1 = M ∧ K1 = kO K (nI ((K.2.2.1 0).getD p1.toNatClampNeg 0) : Int32).toInt64) ∨ (¬ xk_b p1 (nI (K.2.2.1 0).length) = 0 ∧ r = xk_b p1 (nI (K.2.2.1 0).length) ∧ X1 = X ∧ M1 = M ∧ K1 = K))) 1 6 A := by
  refine met_ofL [(0, .ref (ad 0)), (1, .int p1), (2, .ref (ad 74))] (by decide +kernel) (Nat.le_of_ble_eq_true rfl) rfl ?_
  intro G C hl hR hL hD hcy hA had hsa ht hN hr hQ
  subst hD hcy hA had hsa hl
  have hcode : xk_b p1 (nI (K.2.2.1 0).length) = 0 ∨ xk_b p1 (nI (K.2.2.1 0).length) = 1 := by
    unfold xk_b
    repeat' split
    all_goals first | exact Or.inl rfl | exact Or.inr (rfl)
  refine g_aload_n C dL_logAt_0 2 rfl ?_
  refine g_iconst C dL_logAt_1 (v := 0) (by decide) ?_
  refine g_aload_n C dL_logAt_2 0 rfl ?_
  refine g_iload_n C dL_logAt_3 1 rfl ?_
  refine g_tryi C (c_X10_logAt _ _ _ _ _ _ _ _ _ p1 hcap hlen hch hst) tw1189 tw1190 tw1191 tw1 tw1192 (rv_X10 C) rfl ⟨by decide +kernel, by decide +kernel, rfl⟩ ⟨rfl, rfl⟩ (by rw [hR]; exact ⟨Nat.le_of_ble_eq_true rfl, Nat.le_of_ble_eq_true rfl⟩) (Nat.le_of_ble_eq_true rfl) dL_logAt_4 (by rw [hR]; exact ⟨Nat.le_of_eq (Nat.zero_add _), Nat.le_of_eq (Nat.zero_add _)⟩) (fun E X1 M1 K1 hx => ?_) (fun r X1 M1 K1 hx => ?_)
  · obtain ⟨hc, hE, hX1, hM1, hK1⟩ := hx
    subst hE
    subst X1 M1 K1
    have h1 := hcode.resolve_left hc
    have e1 : xn "java/lang/IndexOutOfBoundsException" "java/lang/IndexOutOfBoundsException" "java/lang/IndexOutOfBoundsException" (xk_b p1 (nI (K.2.2.1 0).length)) = "java/lang/IndexOutOfBoundsException" := by rw [h1]; decide
    rw [e1]
    refine g_catch C [] ⟨0, 9, 12, 35⟩ [] ht (fun z hz => absurd hz List.not_mem_nil) (by decide) (by decide) tw740 (by decide +kernel) rfl (fun q => ?_)
    refine g_astore_n C dL_logAt_12 (L' := [(3, .ref q), (0, .ref (gad G 0)), (1, .int p1), (2, .ref (gad G 74))]) rfl (by rw [hL]; decide) ?_
    refine g_iconst C dL_logAt_13 (v := 1) (by decide) ?_
    exact g_iretW C hr hQ (Nat.le_of_eq (Nat.zero_add _)) (Nat.le_of_eq (Nat.zero_add _)) dL_logAt_14 (Or.inr ⟨hc, h1.symm, rfl, rfl, rfl⟩)
  · obtain ⟨hc, er, hX1, hM1, hK1⟩ := hx
    subst X1 M1 K1
    refine g_i2l C dL_logAt_7 ?_
    refine as_74 C dL_logAt_8 ?_
    refine g_goto C dL_logAt_9 (tgt := 15) (by decide) ?_
    refine g_iconst C dL_logAt_15 (v := 0) (by decide) ?_
    exact g_iretW C hr hQ (Nat.le_of_eq (Nat.zero_add _)) (Nat.le_of_eq (Nat.zero_add _)) dL_logAt_16 (Or.inl ⟨hc, rfl, rfl, rfl, by rw [er]⟩)

set_option maxHeartbeats 1000000 in
set_option maxRecDepth 100000 in
theorem c_L_meanFill (l : Launch) (D : va_G) (cy : Nat → ClassId) (A : Nat → Prop) (ad sad : Nat → Nat) (X M : XF) (K : KF) (h5 : ∀ i : Nat, i < 3 → 0 ≤ (X 5 i).toInt) (hst : l.stackTraces = false) : Met l yL_meanFill (wsH yL_meanFill cL_meanFill 3 (some .int) [(0, 7, 10, 123)]) ({ frames := 7, cells := 1, slots := 6, locals := 103 }) (PcL D cy A ad sad X M K [.ref (ad 0), .ref (ad 75)]) (QiW D cy A ad (fun r X1 M1 K1 => (xk_no (tk_cnt (X 2) 3) = 0 ∧ r = 0 ∧ X1 = X ∧ M1 = M ∧ K1 = kD K (FP.ddiv (fs_n (X 5) (X 2) 3) (FP.i2d (tk_cnt (X 2) 3)))) ∨ (¬ xk_no (tk_cnt (X 2) 3) = 0 ∧ r = xk_no (tk_cnt (X 2) 3) ∧ X1 = X ∧ M1 = M ∧ K1 = K))) 1 6 A := by
  refine met_ofL [(0, .ref (ad 0)), (1, .ref (ad 75))] (by decide +kernel) (Nat.le_of_ble_eq_true rfl) rfl ?_
  intro G C hl hR hL hD hcy hA had hsa ht hN hr hQ
  subst hD hcy hA had hsa hl
  have hcode : xk_no (tk_cnt (X 2) 3) = 0 ∨ xk_no (tk_cnt (X 2) 3) = 1 := by
    unfold xk_no
    repeat' split
    all_goals first | exact Or.inl rfl | exact Or.inr (rfl)
  refine g_aload_n C dL_meanFill_0 1 rfl ?_
  refine g_iconst C dL_meanFill_1 (v := 0) (by decide) ?_
  refine g_aload_n C dL_meanFill_2 0 rfl ?_
  refine g_tryd C (c_X10_meanFill _ _ _ _ _ _ _ _ _ h5 hst) tw1222 tw1223 tw1224 tw1 tw1225 (rv_X10 C) rfl ⟨by decide +kernel, by decide +kernel, rfl⟩ ⟨rfl, rfl⟩ (by rw [hR]; exact ⟨Nat.le_of_ble_eq_true rfl, Nat.le_of_ble_eq_true rfl⟩) (Nat.le_of_ble_eq_true rfl) dL_meanFill_3 (by rw [hR]; exact ⟨Nat.le_of_eq (Nat.zero_add _), Nat.le_of_eq (Nat.zero_add _)⟩) (fun E X1 M1 K1 hx => ?_) (fun r X1 M1 K1 hx => ?_)
  · obtain ⟨hc, hE, hX1, hM1, hK1⟩ := hx
    subst hE
    subst X1 M1 K1
    have h1 := hcode.resolve_left hc
    have e1 : xn "java/lang/ArithmeticException" "java/lang/ArithmeticException" "java/lang/ArithmeticException" (xk_no (tk_cnt (X 2) 3)) = "java/lang/ArithmeticException" := by rw [h1]; decide
    rw [e1]
    refine g_catch C [] ⟨0, 7, 10, 123⟩ [] ht (fun z hz => absurd hz List.not_mem_nil) (by decide) (by decide) tw1198 (by decide +kernel) rfl (fun q => ?_)
    refine g_astore_n C dL_meanFill_10 (L' := [(2, .ref q), (0, .ref (gad G 0)), (1, .ref (gad G 75))]) rfl (by rw [hL]; decide) ?_
    refine g_iconst C dL_meanFill_11 (v := 1) (by decide) ?_
    exact g_iretW C hr hQ (Nat.le_of_eq (Nat.zero_add _)) (Nat.le_of_eq (Nat.zero_add _)) dL_meanFill_12 (Or.inr ⟨hc, h1.symm, rfl, rfl, rfl⟩)
  · obtain ⟨hc, er, hX1, hM1, hK1⟩ := hx
    subst X1 M1 K1
    refine as_75 C dL_meanFill_6 ?_
    refine g_goto C dL_meanFill_7 (tgt := 13) (by decide) ?_
    refine g_iconst C dL_meanFill_13 (v := 0) (by decide) ?_
    exact g_iretW C hr hQ (Nat.le_of_eq (Nat.zero_add _)) (Nat.le_of_eq (Nat.zero_add _)) dL_meanFill_14 (Or.inl ⟨hc, rfl, rfl, rfl, by rw [er]⟩)

set_option maxHeartbeats 1000000 in
set_option maxRecDepth 100000 in
theorem c_L_metShare (l : Launch) (D : va_G) (cy : Nat → ClassId) (A : Nat → Prop) (ad sad : Nat → Nat) (X M : XF) (K : KF) (z : Nat) (hz : X 105 0 = nI z) (hzl : z ≤ 12) (ho : ∀ j : Nat, j < z → okAb (X 25 j) (X 26 j)) (hst : l.stackTraces = false) : Met l yL_metShare (wsH yL_metShare cL_metShare 3 (some .int) [(0, 8, 11, 123)]) ({ frames := 7, cells := 1, slots := 6, locals := 115 }) (PcL D cy A ad sad X M K [.ref (ad 0), .ref (ad 75)]) (QiW D cy A ad (fun r X1 M1 K1 => (xk_no (nI z) = 0 ∧ r = 0 ∧ X1 = X ∧ M1 = M ∧ K1 = kD K (FP.f2d (fq (ct_n (fun j => cl_met X j) z) (nI z)))) ∨ (¬ xk_no (nI z) = 0 ∧ r = xk_no (nI z) ∧ X1 = X ∧ M1 = M ∧ K1 = K))) 1 6 A := by
  refine met_ofL [(0, .ref (ad 0)), (1, .ref (ad 75))] (by decide +kernel) (Nat.le_of_ble_eq_true rfl) rfl ?_
  intro G C hl hR hL hD hcy hA had hsa ht hN hr hQ
  subst hD hcy hA had hsa hl
  have hcode : xk_no (nI z) = 0 ∨ xk_no (nI z) = 1 := by
    unfold xk_no
    repeat' split
    all_goals first | exact Or.inl rfl | exact Or.inr (rfl)
  refine g_aload_n C dL_metShare_0 1 rfl ?_
  refine g_iconst C dL_metShare_1 (v := 0) (by decide) ?_
  refine g_aload_n C dL_metShare_2 0 rfl ?_
  refine g_tryf C (c_X10_metShare _ _ _ _ _ _ _ _ _ z hz hzl ho hst) tw1212 tw1213 tw1214 tw1 tw1215 (rv_X10 C) rfl ⟨by decide +kernel, by decide +kernel, rfl⟩ ⟨rfl, rfl⟩ (by rw [hR]; exact ⟨Nat.le_of_ble_eq_true rfl, Nat.le_of_ble_eq_true rfl⟩) (Nat.le_of_ble_eq_true rfl) dL_metShare_3 (by rw [hR]; exact ⟨Nat.le_of_eq (Nat.zero_add _), Nat.le_of_eq (Nat.zero_add _)⟩) (fun E X1 M1 K1 hx => ?_) (fun r X1 M1 K1 hx => ?_)
  · obtain ⟨hc, hE, hX1, hM1, hK1⟩ := hx
    subst hE
    subst X1 M1 K1
    have h1 := hcode.resolve_left hc
    have e1 : xn "java/lang/ArithmeticException" "java/lang/ArithmeticException" "java/lang/ArithmeticException" (xk_no (nI z)) = "java/lang/ArithmeticException" := by rw [h1]; decide
    rw [e1]
    refine g_catch C [] ⟨0, 8, 11, 123⟩ [] ht (fun z hz => absurd hz List.not_mem_nil) (by decide) (by decide) tw1198 (by decide +kernel) rfl (fun q => ?_)
    refine g_astore_n C dL_metShare_11 (L' := [(2, .ref q), (0, .ref (gad G 0)), (1, .ref (gad G 75))]) rfl (by rw [hL]; decide) ?_
    refine g_iconst C dL_metShare_12 (v := 1) (by decide) ?_
    exact g_iretW C hr hQ (Nat.le_of_eq (Nat.zero_add _)) (Nat.le_of_eq (Nat.zero_add _)) dL_metShare_13 (Or.inr ⟨hc, h1.symm, rfl, rfl, rfl⟩)
  · obtain ⟨hc, er, hX1, hM1, hK1⟩ := hx
    subst X1 M1 K1
    refine g_f2d C dL_metShare_6 (by rw [er]; exact (ct_q hzl (fun q => by rw [xk_no, if_pos q] at hc; exact absurd hc (by decide))).2.1) ?_
    refine as_75 C dL_metShare_7 ?_
    refine g_goto C dL_metShare_8 (tgt := 14) (by decide) ?_
    refine g_iconst C dL_metShare_14 (v := 0) (by decide) ?_
    exact g_iretW C hr hQ (Nat.le_of_eq (Nat.zero_add _)) (Nat.le_of_eq (Nat.zero_add _)) dL_metShare_15 (Or.inl ⟨hc, rfl, rfl, rfl, by rw [er]⟩)

set_option maxHeartbeats 1000000 in
set_option maxRecDepth 100000 in
theorem c_L_pass (l : Launch) (D : va_G) (cy : Nat → ClassId) (A : Nat → Prop) (ad sad : Nat → Nat) (X M : XF) (K : KF) (p1 : Int32) (v z z5 z8 : Nat) (hs : okS v z z5 z8 X) (hzl : z ≤ 12) (h5 : z5 ≤ 6) (h8 : z8 ≤ 16) (hv : v ≤ 100000) (h16 : 16 ≤ K.2.1 0) (hcap : (ps_K z z5 z8 v X K p1.toNatClampNeg).2.1 0 < 2 ^ 26) (hst : l.stackTraces = false) : Met l yL_pass (wsH yL_pass cL_pass 4 (some .int) [(0, 9, 12, 13), (0, 9, 15, 30)]) ({ frames := 11, cells := (ps_K z z5 z8 v X K p1.toNatClampNeg).2.1 4 - K.2.1 4 + 1, slots := (ps_K z z5 z8 v X K p1.toNatClampNeg).2.1 6 - K.2.1 6 + 6, locals := 299 }) (PcL D cy A ad sad X M K [.ref (ad 0), .int p1, .ref (ad 74)]) (QiW D cy A ad (fun r X1 M1 K1 => (xk_pass (X 101 0) p1 = 0 ∧ r = 0 ∧ X1 = ps_X z z5 z8 v X p1.toNatClampNeg ∧ M1 = M ∧ K1 = kO (ps_K z z5 z8 v X K p1.toNatClampNeg) (nI (v + p1.toNatClampNeg) : Int32).toInt64) ∨ (¬ xk_pass (X 101 0) p1 = 0 ∧ r = xk_pass (X 101 0) p1 ∧ X1 = X ∧ M1 = M ∧ K1 = K))) ((ps_K z z5 z8 v X K p1.toNatClampNeg).2.1 4 - K.2.1 4 + 1) ((ps_K z z5 z8 v X K p1.toNatClampNeg).2.1 6 - K.2.1 6 + 6) A := by
  refine met_ofL [(0, .ref (ad 0)), (1, .int p1), (2, .ref (ad 74))] (by decide +kernel) (Nat.le_of_ble_eq_true rfl) rfl ?_
  intro G C hl hR hL hD hcy hA had hsa ht hN hr hQ
  subst hD hcy hA had hsa hl
  have hcode : xk_pass (X 101 0) p1 = 0 ∨ xk_pass (X 101 0) p1 = 1 ∨ xk_pass (X 101 0) p1 = 2 := by
    unfold xk_pass
    repeat' split
    all_goals first | exact Or.inl rfl | exact Or.inr (Or.inl rfl) | exact Or.inr (Or.inr (rfl))
  refine g_aload_n C dL_pass_0 2 rfl ?_
  refine g_iconst C dL_pass_1 (v := 0) (by decide) ?_
  refine g_aload_n C dL_pass_2 0 rfl ?_
  refine g_iload_n C dL_pass_3 1 rfl ?_
  refine g_tryi C (c_X10_pass _ _ _ _ _ _ _ _ _ p1 v z z5 z8 hs hzl h5 h8 hv h16 hcap hst) tw1030 tw1031 tw1032 tw1 tw1033 (rv_X10 C) rfl ⟨by decide +kernel, by decide +kernel, rfl⟩ ⟨rfl, rfl⟩ (by rw [hR]; exact ⟨Nat.le_of_ble_eq_true rfl, Nat.le_of_ble_eq_true rfl⟩) (Nat.le_of_ble_eq_true rfl) dL_pass_4 (by rw [hR]; exact ⟨Nat.le_of_eq (Nat.zero_add _), Nat.le_of_eq (Nat.zero_add _)⟩) (fun E X1 M1 K1 hx => ?_) (fun r X1 M1 K1 hx => ?_)
  · obtain ⟨hc, hE, hX1, hM1, hK1⟩ := hx
    subst hE
    subst X1 M1 K1
    rcases hcode.resolve_left hc with h1 | h1
    · have e1 : xn "java/lang/IllegalArgumentException" "java/lang/IllegalStateException" "java/lang/IllegalStateException" (xk_pass (X 101 0) p1) = "java/lang/IllegalArgumentException" := by rw [h1]; decide
      rw [e1]
      refine g_catch C [] ⟨0, 9, 12, 13⟩ [⟨0, 9, 15, 30⟩] ht (fun z hz => absurd hz List.not_mem_nil) (by decide) (by decide) tw591 (by decide +kernel) rfl (fun q => ?_)
      refine g_astore_n C dL_pass_12 (L' := [(3, .ref q), (0, .ref (gad G 0)), (1, .int p1), (2, .ref (gad G 74))]) rfl (by rw [hL]; decide) ?_
      refine g_iconst C dL_pass_13 (v := 1) (by decide) ?_
      exact g_iretW C hr hQ (Nat.le_of_eq (Nat.zero_add _)) (Nat.le_of_eq (Nat.zero_add _)) dL_pass_14 (Or.inr ⟨hc, h1.symm, rfl, rfl, rfl⟩)
    · have e1 : xn "java/lang/IllegalArgumentException" "java/lang/IllegalStateException" "java/lang/IllegalStateException" (xk_pass (X 101 0) p1) = "java/lang/IllegalStateException" := by rw [h1]; decide
      rw [e1]
      refine g_catch C [⟨0, 9, 12, 13⟩] ⟨0, 9, 15, 30⟩ [] ht (fun z hz => by rw [List.mem_singleton.mp hz]; exact ⟨by decide, "java/lang/IllegalArgumentException", tw591, hN ("java/lang/IllegalStateException", "java/lang/IllegalArgumentException") (by decide)⟩) (by decide) (by decide) tw707 (by decide +kernel) rfl (fun q => ?_)
      refine g_astore_n C dL_pass_15 (L' := [(3, .ref q), (0, .ref (gad G 0)), (1, .int p1), (2, .ref (gad G 74))]) rfl (by rw [hL]; decide) ?_
      refine g_iconst C dL_pass_16 (v := 2) (by decide) ?_
      exact g_iretW C hr hQ (Nat.le_of_eq (Nat.zero_add _)) (Nat.le_of_eq (Nat.zero_add _)) dL_pass_17 (Or.inr ⟨hc, h1.symm, rfl, rfl, rfl⟩)
  · obtain ⟨hc, er, hX1, hM1, hK1⟩ := hx
    subst X1 M1 K1
    refine g_i2l C dL_pass_7 ?_
    refine as_74 C dL_pass_8 ?_
    refine g_goto C dL_pass_9 (tgt := 18) (by decide) ?_
    refine g_iconst C dL_pass_18 (v := 0) (by decide) ?_
    exact g_iretW C hr hQ (Nat.le_of_eq (Nat.zero_add _)) (Nat.le_of_eq (Nat.zero_add _)) dL_pass_19 (Or.inl ⟨hc, rfl, rfl, rfl, by rw [er]⟩)

set_option maxHeartbeats 1000000 in
set_option maxRecDepth 100000 in
theorem c_L_passX (l : Launch) (D : va_G) (cy : Nat → ClassId) (A : Nat → Prop) (ad sad : Nat → Nat) (X M : XF) (K : KF) (p1 : Int32) (hx : ¬ xk_pass (X 101 0) p1 = 0) (hst : l.stackTraces = false) : Met l yL_pass (wsH yL_pass cL_pass 4 (some .int) [(0, 9, 12, 13), (0, 9, 15, 30)]) ({ frames := 7, cells := 1, slots := 6, locals := 104 }) (PcL D cy A ad sad X M K [.ref (ad 0), .int p1, .ref (ad 74)]) (QiW D cy A ad (fun r X1 M1 K1 => (xk_pass (X 101 0) p1 = 0 ∧ r = 0 ∧ X1 = X ∧ M1 = M ∧ K1 = kO K (0 : Int32).toInt64) ∨ (¬ xk_pass (X 101 0) p1 = 0 ∧ r = xk_pass (X 101 0) p1 ∧ X1 = X ∧ M1 = M ∧ K1 = K))) 1 6 A := by
  refine met_ofL [(0, .ref (ad 0)), (1, .int p1), (2, .ref (ad 74))] (by decide +kernel) (Nat.le_of_ble_eq_true rfl) rfl ?_
  intro G C hl hR hL hD hcy hA had hsa ht hN hr hQ
  subst hD hcy hA had hsa hl
  have hcode : xk_pass (X 101 0) p1 = 0 ∨ xk_pass (X 101 0) p1 = 1 ∨ xk_pass (X 101 0) p1 = 2 := by
    unfold xk_pass
    repeat' split
    all_goals first | exact Or.inl rfl | exact Or.inr (Or.inl rfl) | exact Or.inr (Or.inr (rfl))
  refine g_aload_n C dL_pass_0 2 rfl ?_
  refine g_iconst C dL_pass_1 (v := 0) (by decide) ?_
  refine g_aload_n C dL_pass_2 0 rfl ?_
  refine g_iload_n C dL_pass_3 1 rfl ?_
  refine g_tryi C (c_X10_passX _ _ _ _ _ _ _ _ _ p1 hx hst) tw1030 tw1031 tw1032 tw1 tw1033 (rv_X10 C) rfl ⟨by decide +kernel, by decide +kernel, rfl⟩ ⟨rfl, rfl⟩ (by rw [hR]; exact ⟨Nat.le_of_ble_eq_true rfl, Nat.le_of_ble_eq_true rfl⟩) (Nat.le_of_ble_eq_true rfl) dL_pass_4 (by rw [hR]; exact ⟨Nat.le_of_eq (Nat.zero_add _), Nat.le_of_eq (Nat.zero_add _)⟩) (fun E X1 M1 K1 hx => ?_) (fun r X1 M1 K1 hx => ?_)
  · obtain ⟨hc, hE, hX1, hM1, hK1⟩ := hx
    subst hE
    subst X1 M1 K1
    rcases hcode.resolve_left hc with h1 | h1
    · have e1 : xn "java/lang/IllegalArgumentException" "java/lang/IllegalStateException" "java/lang/IllegalStateException" (xk_pass (X 101 0) p1) = "java/lang/IllegalArgumentException" := by rw [h1]; decide
      rw [e1]
      refine g_catch C [] ⟨0, 9, 12, 13⟩ [⟨0, 9, 15, 30⟩] ht (fun z hz => absurd hz List.not_mem_nil) (by decide) (by decide) tw591 (by decide +kernel) rfl (fun q => ?_)
      refine g_astore_n C dL_pass_12 (L' := [(3, .ref q), (0, .ref (gad G 0)), (1, .int p1), (2, .ref (gad G 74))]) rfl (by rw [hL]; decide) ?_
      refine g_iconst C dL_pass_13 (v := 1) (by decide) ?_
      exact g_iretW C hr hQ (Nat.le_of_eq (Nat.zero_add _)) (Nat.le_of_eq (Nat.zero_add _)) dL_pass_14 (Or.inr ⟨hc, h1.symm, rfl, rfl, rfl⟩)
    · have e1 : xn "java/lang/IllegalArgumentException" "java/lang/IllegalStateException" "java/lang/IllegalStateException" (xk_pass (X 101 0) p1) = "java/lang/IllegalStateException" := by rw [h1]; decide
      rw [e1]
      refine g_catch C [⟨0, 9, 12, 13⟩] ⟨0, 9, 15, 30⟩ [] ht (fun z hz => by rw [List.mem_singleton.mp hz]; exact ⟨by decide, "java/lang/IllegalArgumentException", tw591, hN ("java/lang/IllegalStateException", "java/lang/IllegalArgumentException") (by decide)⟩) (by decide) (by decide) tw707 (by decide +kernel) rfl (fun q => ?_)
      refine g_astore_n C dL_pass_15 (L' := [(3, .ref q), (0, .ref (gad G 0)), (1, .int p1), (2, .ref (gad G 74))]) rfl (by rw [hL]; decide) ?_
      refine g_iconst C dL_pass_16 (v := 2) (by decide) ?_
      exact g_iretW C hr hQ (Nat.le_of_eq (Nat.zero_add _)) (Nat.le_of_eq (Nat.zero_add _)) dL_pass_17 (Or.inr ⟨hc, h1.symm, rfl, rfl, rfl⟩)
  · obtain ⟨hc, er, hX1, hM1, hK1⟩ := hx
    subst X1 M1 K1
    refine g_i2l C dL_pass_7 ?_
    refine as_74 C dL_pass_8 ?_
    refine g_goto C dL_pass_9 (tgt := 18) (by decide) ?_
    refine g_iconst C dL_pass_18 (v := 0) (by decide) ?_
    exact g_iretW C hr hQ (Nat.le_of_eq (Nat.zero_add _)) (Nat.le_of_eq (Nat.zero_add _)) dL_pass_19 (Or.inl ⟨hc, rfl, rfl, rfl, by rw [er]⟩)

set_option maxHeartbeats 1000000 in
set_option maxRecDepth 100000 in
theorem c_L_beginX (l : Launch) (D : va_G) (cy : Nat → ClassId) (A : Nat → Prop) (ad sad : Nat → Nat) (X M : XF) (K : KF) (p1 p2 p3 : Int32) (hx : ¬ xk_begin (X 118 0) p1 p2 p3 = 0) (hst : l.stackTraces = false) : Met l yL_begin (wsH yL_begin cL_begin 6 (some .int) [(0, 12, 15, 13), (0, 12, 19, 30)]) ({ frames := 7, cells := 1, slots := 6, locals := 105 }) (PcL D cy A ad sad X M K [.ref (ad 0), .int p1, .int p2, .int p3, .ref (ad 74)]) (QiW D cy A ad (fun r X1 M1 K1 => (xk_begin (X 118 0) p1 p2 p3 = 0 ∧ r = 0 ∧ X1 = X ∧ M1 = M ∧ K1 = kO K (0 : Int32).toInt64) ∨ (¬ xk_begin (X 118 0) p1 p2 p3 = 0 ∧ r = xk_begin (X 118 0) p1 p2 p3 ∧ X1 = X ∧ M1 = M ∧ K1 = K))) 1 6 A := by
  refine met_ofL [(0, .ref (ad 0)), (1, .int p1), (2, .int p2), (3, .int p3), (4, .ref (ad 74))] (by decide +kernel) (Nat.le_of_ble_eq_true rfl) rfl ?_
  intro G C hl hR hL hD hcy hA had hsa ht hN hr hQ
  subst hD hcy hA had hsa hl
  have hcode : xk_begin (X 118 0) p1 p2 p3 = 0 ∨ xk_begin (X 118 0) p1 p2 p3 = 1 ∨ xk_begin (X 118 0) p1 p2 p3 = 2 := by
    unfold xk_begin
    repeat' split
    all_goals first | exact Or.inl rfl | exact Or.inr (Or.inl rfl) | exact Or.inr (Or.inr (rfl))
  refine g_aload C dL_begin_0 4 rfl ?_
  refine g_iconst C dL_begin_2 (v := 0) (by decide) ?_
  refine g_aload_n C dL_begin_3 0 rfl ?_
  refine g_iload_n C dL_begin_4 1 rfl ?_
  refine g_iload_n C dL_begin_5 2 rfl ?_
  refine g_iload_n C dL_begin_6 3 rfl ?_
  refine g_tryi C (c_X10_beginX _ _ _ _ _ _ _ _ _ p1 p2 p3 hx hst) tw993 tw994 tw995 tw1 tw996 (rv_X10 C) rfl ⟨by decide +kernel, by decide +kernel, rfl⟩ ⟨rfl, rfl⟩ (by rw [hR]; exact ⟨Nat.le_of_ble_eq_true rfl, Nat.le_of_ble_eq_true rfl⟩) (Nat.le_of_ble_eq_true rfl) dL_begin_7 (by rw [hR]; exact ⟨Nat.le_of_eq (Nat.zero_add _), Nat.le_of_eq (Nat.zero_add _)⟩) (fun E X1 M1 K1 hx => ?_) (fun r X1 M1 K1 hx => ?_)
  · obtain ⟨hc, hE, hX1, hM1, hK1⟩ := hx
    subst hE
    subst X1 M1 K1
    rcases hcode.resolve_left hc with h1 | h1
    · have e1 : xn "java/lang/IllegalArgumentException" "java/lang/IllegalStateException" "java/lang/IllegalStateException" (xk_begin (X 118 0) p1 p2 p3) = "java/lang/IllegalArgumentException" := by rw [h1]; decide
      rw [e1]
      refine g_catch C [] ⟨0, 12, 15, 13⟩ [⟨0, 12, 19, 30⟩] ht (fun z hz => absurd hz List.not_mem_nil) (by decide) (by decide) tw591 (by decide +kernel) rfl (fun q => ?_)
      refine g_astore C dL_begin_15 (L' := [(5, .ref q), (0, .ref (gad G 0)), (1, .int p1), (2, .int p2), (3, .int p3), (4, .ref (gad G 74))]) rfl (by rw [hL]; decide) ?_
      refine g_iconst C dL_begin_17 (v := 1) (by decide) ?_
      exact g_iretW C hr hQ (Nat.le_of_eq (Nat.zero_add _)) (Nat.le_of_eq (Nat.zero_add _)) dL_begin_18 (Or.inr ⟨hc, h1.symm, rfl, rfl, rfl⟩)
    · have e1 : xn "java/lang/IllegalArgumentException" "java/lang/IllegalStateException" "java/lang/IllegalStateException" (xk_begin (X 118 0) p1 p2 p3) = "java/lang/IllegalStateException" := by rw [h1]; decide
      rw [e1]
      refine g_catch C [⟨0, 12, 15, 13⟩] ⟨0, 12, 19, 30⟩ [] ht (fun z hz => by rw [List.mem_singleton.mp hz]; exact ⟨by decide, "java/lang/IllegalArgumentException", tw591, hN ("java/lang/IllegalStateException", "java/lang/IllegalArgumentException") (by decide)⟩) (by decide) (by decide) tw707 (by decide +kernel) rfl (fun q => ?_)
      refine g_astore C dL_begin_19 (L' := [(5, .ref q), (0, .ref (gad G 0)), (1, .int p1), (2, .int p2), (3, .int p3), (4, .ref (gad G 74))]) rfl (by rw [hL]; decide) ?_
      refine g_iconst C dL_begin_21 (v := 2) (by decide) ?_
      exact g_iretW C hr hQ (Nat.le_of_eq (Nat.zero_add _)) (Nat.le_of_eq (Nat.zero_add _)) dL_begin_22 (Or.inr ⟨hc, h1.symm, rfl, rfl, rfl⟩)
  · obtain ⟨hc, er, hX1, hM1, hK1⟩ := hx
    subst X1 M1 K1
    refine g_i2l C dL_begin_10 ?_
    refine as_74 C dL_begin_11 ?_
    refine g_goto C dL_begin_12 (tgt := 23) (by decide) ?_
    refine g_iconst C dL_begin_23 (v := 0) (by decide) ?_
    exact g_iretW C hr hQ (Nat.le_of_eq (Nat.zero_add _)) (Nat.le_of_eq (Nat.zero_add _)) dL_begin_24 (Or.inl ⟨hc, rfl, rfl, rfl, by rw [er]⟩)

set_option maxHeartbeats 1000000 in
set_option maxRecDepth 100000 in
theorem c_L_recycleX (l : Launch) (D : va_G) (cy : Nat → ClassId) (A : Nat → Prop) (ad sad : Nat → Nat) (X M : XF) (K : KF) (p1 : Int32) (z5 : Nat) (hz5 : X 103 0 = nI z5) (h5 : z5 ≤ 6) (hx : ¬ xk_rec (X 14) z5 (X 118 0) (X 106 0) p1 = 0) (hst : l.stackTraces = false) : Met l yL_recycle (wsH yL_recycle cL_recycle 4 (some .int) [(0, 9, 12, 35), (0, 9, 15, 45)]) ({ frames := 7, cells := 1, slots := 6, locals := 103 }) (PcL D cy A ad sad X M K [.ref (ad 0), .int p1, .ref (ad 74)]) (QiW D cy A ad (fun r X1 M1 K1 => (xk_rec (X 14) z5 (X 118 0) (X 106 0) p1 = 0 ∧ r = 0 ∧ X1 = X ∧ M1 = M ∧ K1 = kO K (0 : Int32).toInt64) ∨ (¬ xk_rec (X 14) z5 (X 118 0) (X 106 0) p1 = 0 ∧ r = xk_rec (X 14) z5 (X 118 0) (X 106 0) p1 ∧ X1 = X ∧ M1 = M ∧ K1 = K))) 1 6 A := by
  refine met_ofL [(0, .ref (ad 0)), (1, .int p1), (2, .ref (ad 74))] (by decide +kernel) (Nat.le_of_ble_eq_true rfl) rfl ?_
  intro G C hl hR hL hD hcy hA had hsa ht hN hr hQ
  subst hD hcy hA had hsa hl
  have hcode : xk_rec (X 14) z5 (X 118 0) (X 106 0) p1 = 0 ∨ xk_rec (X 14) z5 (X 118 0) (X 106 0) p1 = 1 ∨ xk_rec (X 14) z5 (X 118 0) (X 106 0) p1 = 2 := by
    unfold xk_rec
    repeat' split
    all_goals first | exact Or.inl rfl | exact Or.inr (Or.inl rfl) | exact Or.inr (Or.inr (rfl))
  refine g_aload_n C dL_recycle_0 2 rfl ?_
  refine g_iconst C dL_recycle_1 (v := 0) (by decide) ?_
  refine g_aload_n C dL_recycle_2 0 rfl ?_
  refine g_iload_n C dL_recycle_3 1 rfl ?_
  refine g_tryi C (c_X10_recycleX _ _ _ _ _ _ _ _ _ p1 z5 hz5 h5 hx hst) tw1013 tw1014 tw1015 tw1 tw1016 (rv_X10 C) rfl ⟨by decide +kernel, by decide +kernel, rfl⟩ ⟨rfl, rfl⟩ (by rw [hR]; exact ⟨Nat.le_of_ble_eq_true rfl, Nat.le_of_ble_eq_true rfl⟩) (Nat.le_of_ble_eq_true rfl) dL_recycle_4 (by rw [hR]; exact ⟨Nat.le_of_eq (Nat.zero_add _), Nat.le_of_eq (Nat.zero_add _)⟩) (fun E X1 M1 K1 hx => ?_) (fun r X1 M1 K1 hx => ?_)
  · obtain ⟨hc, hE, hX1, hM1, hK1⟩ := hx
    subst hE
    subst X1 M1 K1
    rcases hcode.resolve_left hc with h1 | h1
    · have e1 : xn "java/lang/IndexOutOfBoundsException" "java/lang/UnsupportedOperationException" "java/lang/UnsupportedOperationException" (xk_rec (X 14) z5 (X 118 0) (X 106 0) p1) = "java/lang/IndexOutOfBoundsException" := by rw [h1]; decide
      rw [e1]
      refine g_catch C [] ⟨0, 9, 12, 35⟩ [⟨0, 9, 15, 45⟩] ht (fun z hz => absurd hz List.not_mem_nil) (by decide) (by decide) tw740 (by decide +kernel) rfl (fun q => ?_)
      refine g_astore_n C dL_recycle_12 (L' := [(3, .ref q), (0, .ref (gad G 0)), (1, .int p1), (2, .ref (gad G 74))]) rfl (by rw [hL]; decide) ?_
      refine g_iconst C dL_recycle_13 (v := 1) (by decide) ?_
      exact g_iretW C hr hQ (Nat.le_of_eq (Nat.zero_add _)) (Nat.le_of_eq (Nat.zero_add _)) dL_recycle_14 (Or.inr ⟨hc, h1.symm, rfl, rfl, rfl⟩)
    · have e1 : xn "java/lang/IndexOutOfBoundsException" "java/lang/UnsupportedOperationException" "java/lang/UnsupportedOperationException" (xk_rec (X 14) z5 (X 118 0) (X 106 0) p1) = "java/lang/UnsupportedOperationException" := by rw [h1]; decide
      rw [e1]
      refine g_catch C [⟨0, 9, 12, 35⟩] ⟨0, 9, 15, 45⟩ [] ht (fun z hz => by rw [List.mem_singleton.mp hz]; exact ⟨by decide, "java/lang/IndexOutOfBoundsException", tw740, hN ("java/lang/UnsupportedOperationException", "java/lang/IndexOutOfBoundsException") (by decide)⟩) (by decide) (by decide) tw803 (by decide +kernel) rfl (fun q => ?_)
      refine g_astore_n C dL_recycle_15 (L' := [(3, .ref q), (0, .ref (gad G 0)), (1, .int p1), (2, .ref (gad G 74))]) rfl (by rw [hL]; decide) ?_
      refine g_iconst C dL_recycle_16 (v := 2) (by decide) ?_
      exact g_iretW C hr hQ (Nat.le_of_eq (Nat.zero_add _)) (Nat.le_of_eq (Nat.zero_add _)) dL_recycle_17 (Or.inr ⟨hc, h1.symm, rfl, rfl, rfl⟩)
  · obtain ⟨hc, er, hX1, hM1, hK1⟩ := hx
    subst X1 M1 K1
    refine g_i2l C dL_recycle_7 ?_
    refine as_74 C dL_recycle_8 ?_
    refine g_goto C dL_recycle_9 (tgt := 18) (by decide) ?_
    refine g_iconst C dL_recycle_18 (v := 0) (by decide) ?_
    exact g_iretW C hr hQ (Nat.le_of_eq (Nat.zero_add _)) (Nat.le_of_eq (Nat.zero_add _)) dL_recycle_19 (Or.inl ⟨hc, rfl, rfl, rfl, by rw [er]⟩)

