/-! NoSuchElementException: its maker links the one above by another index -/
def nsB : ByteArray := ⟨#[0x2a, 0x2b, 0xb7, 0x00, 0x0d, 0xb1]⟩
abbrev nsN : String := "java/util/NoSuchElementException"
abbrev nsR : String := "java/lang/RuntimeException"
def nsL (own : String) (ic : Nat) : List Cond := Bundle.throwableAtoms ++ Bundle.throwableSAtoms ++ (Bundle.passSAtoms nsN nsR 13 nsB ++ Bundle.chainSAtoms nsR ["java/lang/Exception"]) ++
  [.methodLink own ic (Bundle.initS nsN), .instantiable nsN 6, .castable nsN nsN, .selects nsN Bundle.tFill0 Bundle.tFill0, .selects nsN Bundle.tFill Bundle.tFill,
   .lays nsN Bundle.tN "cause" "Ljava/lang/Throwable;", .lays nsN Bundle.tN "stackTrace" Bundle.steD, .lays nsN Bundle.tN "suppressedExceptions" Bundle.listD, .lays nsN Bundle.tN "detailMessage" "Ljava/lang/String;",
   .isRef (.static Bundle.tN "UNASSIGNED_STACK" Bundle.steD), .isRef (.static Bundle.tN "SUPPRESSED_SENTINEL" Bundle.listD),
   .fieldLink Bundle.tN 198 Bundle.tN "backtrace" "Ljava/lang/Object;", .lays Bundle.tN Bundle.tN "backtrace" "Ljava/lang/Object;", .lays nsN Bundle.tN "backtrace" "Ljava/lang/Object;"]
theorem ns_fit : Bundle.fit nsN = true ∧ Bundle.fit nsR = true ∧ Bundle.fit "java/lang/Exception" = true := by decide +kernel
section
variable {p : Program} {l : Launch} {e : Env} {R : Room} {s : State} {m : MethodId} {args : Array Value} {below : List Frame} {meth : Method} {c : Code} {H : Heap} {locs : List Loc} {cells slots : Nat}
variable {free : Addr → Prop} {ls : Array Slot} {rest : List Value} {Qc : Array Value → State → Outcome → State → Prop} {XC : String → State → State → Prop}
set_option maxHeartbeats 1000000 in
theorem ns_ctor {W0 : State} (X : Stand p l e R s m args below meth c W0 locs cells slots) (hexec : p.tables.exec = Jvm.exec) (htr : e.platform.stackTraces = false) {own : String} {ic : Nat}
    (hown : s.vm.findClass own = some m.cls) (h : ∀ w ∈ nsL own ic, w.before args s = true) (hlocs : ∀ x ∈ locs, ∀ cell, s.heap[x.base]? = some cell → cell.vm.isStatics = false)
    {a : Addr} {cX : ClassId} {kX : Class} (hfoundX : s.vm.findClass nsN = some cX) (hkX : s.vm.classes[cX]? = some kX) (hcell : W0.heap[a]? = some (freshCell cX kX)) (hnew : s.heap.size ≤ a)
    {msg : Value} (hmsg : msg.isRef = true) {g : JFrame} (hg : g.method = m) (hsize : g.locals.size = c.maxLocals) (hlocked : g.locked = none) (hentered : g.entered = []) (hstack : g.stack = msg :: .ref a :: .ref a :: rest)
    (hd6 : decode c.code g.pc = .ok (.invokespecial ic, 3)) (hd9 : decode c.code (g.pc + 3) = .ok (.athrow, 1)) (hout : ∀ x ∈ c.exceptionTable.toList, covers x (g.pc + 3) = false)
    (hRframes : 5 < R.frames) (hRlocals : 2 * g.monitorRoom + ((Value.ref a :: rest).map fun v => v.category).sum + (13 * 3 + 42) ≤ R.locals) (hlocks : meth.locks = false) :
    ∃ U : State, Steps p.tables e below (W0.setTop g) U ∧ U.status = .running ∧ Ended U below (.threw a) ∧ s.WarmedH U.vm ∧ s.sameButNew ({ U with vm := s.vm } : State) locs cells slots ∧
      ∃ ce, U.heap[a]? = some ce ∧ s.vm.findClass nsN = some ce.cls ∧ ce.vm = .none := by
  have howns : e.platform.frameOwnsMonitors = true := by rw [X.admits.platform]
  have hfin : e.platform.finalization = false := by rw [X.admits.platform]
  have hpl : e.platform.magicAccessors = ({} : Platform).magicAccessors := by rw [X.admits.platform]
  have a' : ∀ w, w ∈ nsL own ic → w.holds args s none s [] = true := fun w hw => h w hw
  obtain ⟨T, Z0, L, -, Y⟩ := ThrowableC.of_atoms (args := args) howns hfin hpl (fun w hw => h w (by simp [nsL, hw]))
  obtain ⟨Z, M, LZ, LM, hnZ⟩ := Init0T.ofS_atoms (args := args) hpl L Y (fun w hw => h w (by simp [nsL, hw]))
  obtain ⟨P1, L1, hP1m, hP1s⟩ := PassC.ofS_atoms (args := args) (s := s) hpl (X := nsN) (Y := nsR) (index := 13) (bytes := nsB) (Bundle.fit_spec ns_fit.1).1 (Bundle.fit_spec ns_fit.2.1).2 (by decide +kernel) (by decide +kernel) (by decide +kernel) (by decide +kernel) (fun w hw => h w (by simp [nsL, hw]))
  obtain ⟨P2, Ps2, hlen2, L2, hL2, hP2m, hsup2, hpass2⟩ := Bundle.chainS (args := args) hpl hnZ ["java/lang/Exception"] nsR ns_fit.2.1 (fun n hn => by rw [List.mem_singleton.mp hn]; exact ns_fit.2.2) (fun w hw => h w (by simp [nsL, hw]))
  have hlink1 := Option.some.inj (hP1s.symm.trans hP2m)
  have hfound : s.vm.findClass nsN = some P1.m.cls := findClass_of_methodNamed hP1m
  cases Option.some.inj (hfoundX.symm.trans hfound)
  obtain ⟨c1, kX', hc1, hk, hord, -, -, hn6⟩ := Cond.instantiable_spec (a' (.instantiable nsN 6) (by simp [nsL]))
  cases Option.some.inj (hc1.symm.trans hfound)
  cases Option.some.inj (hkX.symm.trans hk)
  have hsel0 : selectMethod e.platform s.vm P1.m.cls T.fill0 = .method T.fill0 := by
    obtain ⟨c2, r2, m2, q1, q2, q3, q4, -⟩ := Cond.selects_spec (a' (.selects nsN Bundle.tFill0 Bundle.tFill0) (by simp [nsL]))
    cases Option.some.inj (q1.symm.trans hfound)
    cases Option.some.inj (q2.symm.trans (State.methodFound?_of_named Y.fill0 (by decide)))
    cases Option.some.inj (q3.symm.trans Y.fill0)
    rw [Launch.admits_selectMethod X.admits]; exact q4
  have hselF : selectMethod e.platform s.vm P1.m.cls T.fill = .method T.fill := by
    obtain ⟨c2, r2, m2, q1, q2, q3, q4, -⟩ := Cond.selects_spec (a' (.selects nsN Bundle.tFill Bundle.tFill) (by simp [nsL]))
    cases Option.some.inj (q1.symm.trans hfound)
    cases Option.some.inj (q2.symm.trans (State.methodFound?_of_named Y.fill (by decide)))
    cases Option.some.inj (q3.symm.trans Y.fill)
    rw [Launch.admits_selectMethod X.admits]; exact q4
  obtain ⟨cellS0, hcS0, hiss⟩ := Y.statics
  obtain ⟨u0, hu0⟩ := Cond.staticRefV Y.unassigned L.unassignedStatic L.statics hcS0 hiss (a' (.isRef (.static Bundle.tN "UNASSIGNED_STACK" Bundle.steD)) (by simp [nsL]))
  obtain ⟨sen, hsen⟩ := Cond.staticRefV Y.sentinel L.sentinelStatic L.statics hcS0 hiss (a' (.isRef (.static Bundle.tN "SUPPRESSED_SENTINEL" Bundle.listD)) (by simp [nsL]))
  obtain ⟨ci198, i198, fB, hk198, hg198, ha198, hsB, -, hnB, htB, hffB⟩ := Cond.ownField (t := .object "java/lang/Object") Y.found L.cls (by decide +kernel) (a' (.fieldLink Bundle.tN 198 Bundle.tN "backtrace" "Ljava/lang/Object;") (by simp [nsL])) (a' (.lays Bundle.tN Bundle.tN "backtrace" "Ljava/lang/Object;") (by simp [nsL])) e.platform hpl
  obtain ⟨cellS, hcS', heS, -, hkeep⟩ := X.same.2.2.2.2.2 T.aS cellS0 hcS0
  have hcellS : W0.heap[T.aS]? = some cellS := hcS'
  have hout' : ∀ i, (⟨T.aS, i⟩ : Loc) ∉ locs := fun i hmem => by
    have := hlocs _ hmem cellS0 hcS0
    rw [hiss] at this; cases this
  have hknownS : cellS.vm ≠ .unknown := by
    rw [heS]; intro hu
    rw [show cellS0.vm = .unknown from hu] at hiss
    cases hiss
  have hneS : T.aS ≠ a := Nat.ne_of_lt (Nat.lt_of_lt_of_le (Array.getElem?_eq_some_iff.mp hcS0).1 hnew)
  obtain ⟨iM, hffM⟩ := Y.msg
  obtain ⟨tyC, dC, hdC, hdnC⟩ := Cond.laysAt hfound hk Y.cause (a' (.lays nsN Bundle.tN "cause" "Ljava/lang/Throwable;") (by simp [nsL]))
  obtain ⟨tyS, dS, hdS, hdnS⟩ := Cond.laysAt hfound hk Y.stack (a' (.lays nsN Bundle.tN "stackTrace" Bundle.steD) (by simp [nsL]))
  obtain ⟨tyP, dP, hdP, hdnP⟩ := Cond.laysAt hfound hk Y.supp (a' (.lays nsN Bundle.tN "suppressedExceptions" Bundle.listD) (by simp [nsL]))
  obtain ⟨tyM, dM, hdM, hdnM⟩ := Cond.laysAt hfound hk hffM (a' (.lays nsN Bundle.tN "detailMessage" "Ljava/lang/String;") (by simp [nsL]))
  obtain ⟨tyB, dB, hdB, hdnB⟩ := Cond.laysAt hfound hk hffB (a' (.lays nsN Bundle.tN "backtrace" "Ljava/lang/Object;") (by simp [nsL]))
  have bC := Cond.laysApart hdB hdC hdnB hdnC (by rw [hnB, Y.causeName]; decide)
  have bS := Cond.laysApart hdB hdS hdnB hdnS (by rw [hnB, Y.stackName]; decide)
  have bP := Cond.laysApart hdB hdP hdnB hdnP (by rw [hnB, Y.suppName]; decide)
  have hskip : SkipFacts T e.platform s (fun u => u) u0 ((preparedCellV T.toThrowableT (freshCell P1.m.cls kX) a u0 sen).withEntry W0.cur) :=
    ⟨{ ci198 := ci198, i198 := i198, fBack := fB }, ⟨hk198, hg198, ha198, hsB⟩, by
      have := fresh_default (c := P1.m.cls) tyB
      rw [htB] at this
      simpa [preparedCellV, Cell.setSlot, Cell.withEntry, Array.getElem?_setIfInBounds, bC, bS, bP, bC.symm, bS.symm, bP.symm, defaultValue] using this, fun _ _ => rfl⟩
  obtain ⟨tm, methC, cdC, kC, vm₁, hnC, -, -, -, -, -, -, -, hW₁, st1⟩ := Steps.initColdS (tb := p.tables) (e := e) (below := below) (s := s) (U := W0) X.here hexec X.warmed hpl hown (t := Bundle.initS nsN) rfl rfl (Bundle.fit_spec ns_fit.1).2
    (a' (.methodLink own ic (Bundle.initS nsN)) (by simp [nsL])) (h (.instanceMethod (Bundle.initS nsN)) (by simp [nsL, Bundle.passSAtoms])) (bytes := nsB) (maxL := 2) (h (.code (Bundle.initS nsN) nsB 2 none) (by simp [nsL, Bundle.passSAtoms]))
    (f := g) hg (a := a) (msg := msg) (rest := .ref a :: rest) hstack hd6
  cases Option.some.inj (hnC.symm.trans hP1m)
  have X₁ := X.noted hW₁
  obtain ⟨vm₂, X₂, st2⟩ := X₁.ctorMessageOffV hexec (g := { g with stack := .ref a :: rest }) hg hsize T L Z LZ M LM (P1 :: P2 :: Ps2)
    (fun P hP => by
      rcases List.mem_cons.mp hP with rfl | hP
      · exact L1
      · rcases List.mem_cons.mp hP with rfl | hP
        · exact L2
        · exact hL2 P hP) ⟨hlink1, hsup2, hpass2⟩ (u0 := u0) (sen := sen) (self := a) hmsg (cell := freshCell P1.m.cls kX) (cellS := cellS)
    hcell (fun _ => by simp) (by simp) rfl rfl hsel0 hselF hcellS hneS hknownS (by rw [hkeep _ (hout' _)]; exact hu0) (by rw [hkeep _ (hout' _)]; exact hsen)
    (Takes.of_laid hk hord tyC (by rw [Y.causeType]; rfl)) (Takes.of_laid hk hord tyS (by rw [Y.stackType]; exact fits_refV_array _ u0)) (Takes.of_laid hk hord tyP (by rw [Y.suppType]; exact fits_refV_object _ sen))
    (Takes.of_laid hk hord tyM (by rw [Y.msgType]; exact fits_refV_object _ ⟨msg, hmsg⟩)) Y.objLocals hskip htr [] hd6
    (by simp only [List.length_cons, hlen2]; simpa using hRframes) (by simp only [List.length_cons, hlen2]; simpa using hRlocals)
  obtain ⟨hwalk, hrun, hended, hWU, hsame⟩ := X₂.athrowLeaves hexec (g := { g with stack := .ref a :: rest, pc := g.pc + 3 }) hg hlocked hentered hout (a := a) (rest := rest) rfl hd9
  have hlt : a < ((W0.setVm vm₁).setVm vm₂).heap.size := (Array.getElem?_eq_some_iff.mp hcell).1
  have hU := heapAt_setCell_self (s := (W0.setVm vm₁).setVm vm₂) (plainBareV T.toThrowableT (freshCell P1.m.cls kX) a u0 sen msg) hlt
  refine ⟨_, st1 _ (fun acts => ?_), hrun, hended, hWU, hsame.weaken (fun y hy hlt' => ?_) (Nat.le_refl _) (Nat.le_refl _), _, hU, hfound, rfl⟩
  · rw [doInvoke_state]
    exact st2 _ hwalk
  · rcases List.mem_append.mp hy with h1 | h1
    · exact h1
    · exfalso
      have hb : y.base = a := by
        simp only [List.mem_cons, List.not_mem_nil, or_false] at h1
        rcases h1 with rfl | rfl | rfl | rfl | rfl <;> rfl
      rw [hb] at hlt'
      exact Nat.not_lt.mpr hnew hlt'
end

section
variable {p : Program} {l : Launch} {e : Env} {R : Room} {s : State} {m : MethodId} {args : Array Value} {below : List Frame} {meth : Method} {c : Code} {H : Heap} {locs : List Loc} {cells slots : Nat}
variable {free : Addr → Prop} {ls : Array Slot} {rest : List Value} {Qc : Array Value → State → Outcome → State → Prop} {XC : String → State → State → Prop}
set_option maxHeartbeats 1000000 in
theorem ns_throw {cc : ByteArray} {pc : Nat} (hexec : p.tables.exec = Jvm.exec) (hb : c.code = cc) (hl : l.stackTraces = false) {own text : String} {ik is ic mc ms sa : Nat} {A : Nat → Prop}
    (hown : s.vm.findClass own = some m.cls) (hk : (Cond.classLink own ik nsN).before args s = true) (hini : (Cond.initialized nsN).before args s = true) (hstr : vk_R own is text sa s) (hat : ∀ w ∈ (nsL own ic).filter vx_no, w.before args s = true)
    (hgood : ∀ w ∈ Cond.classLink own ik nsN :: Cond.initialized nsN :: (nsL own ic).filter vx_no, vx_ot w = true)
    (hU : vx_Zq Bundle.tN "UNASSIGNED_STACK" Bundle.steD A s s.heap) (hN : vx_Zq Bundle.tN "SUPPRESSED_SENTINEL" Bundle.listD A s s.heap) (hS : va_S A s.heap H locs) (hsize : ls.size = c.maxLocals)
    (d0 : decode cc pc = .ok (.new ik, 3)) (d3 : decode cc (pc + 3) = .ok (.dup, 1)) (d4 : decode cc (pc + 4) = .ok (.ldc_w is, 3)) (d7 : decode cc (pc + 7) = .ok (.invokespecial ic, 3)) (d10 : decode cc (pc + 10) = .ok (.athrow, 1))
    (hout : ∀ x ∈ c.exceptionTable.toList, covers x (pc + 10) = false)
    (hRframes : 5 < R.frames) (hRlocals : (rest.map fun v => v.category).sum + (13 * 3 + 43) ≤ R.locals) (hRcells : cells + 1 ≤ R.cells) (hRslots : slots + 6 ≤ R.slots) (hlocks : meth.locks = false)
    (hx : ∀ t : State, s.vm.Alike t.vm → H.size ≤ t.heap.size → (∀ q : Nat, q < H.size → t.heap[q]? = H[q]?) → XC nsN s t)
    (hf : ∀ z ∈ locs, free z.base) (hc : cells + 1 ≤ mc) (hs : slots + 6 ≤ ms) :
    W p l e R s m args below meth c H locs cells slots (vx_MQ below Qc XC args s mc ms free) (F0 m pc ls rest) := by
  intro T hT X
  have htr : e.platform.stackTraces = false := (show e.platform.stackTraces = l.stackTraces by rw [X.admits.platform]).trans hl
  have Y := vx_rebase X (R' := { frames := R.frames, locals := R.locals, cells := 1, slots := 6 }) (Nat.le_refl _) (Nat.le_refl _) hRcells hRslots
  obtain ⟨s', hA⟩ : ∃ z, z = (T.setVm s.vm).setFrames (.invoking m args :: below) := ⟨_, rfl⟩
  rw [← hA] at Y
  have hvm : s'.vm = s.vm := by rw [hA]; rfl
  have hhp : s'.heap = H := by rw [hA]; exact hT
  have hW0 : s.WarmedH s'.vm := by rw [hvm]; exact State.WarmedH.refl s
  have hat' : ∀ w ∈ (nsL own ic).filter vx_no, w.before args s' = true := fun w hw => vx_ot_at hW0 hvm.symm (hgood w (List.mem_cons_of_mem _ (List.mem_cons_of_mem _ hw))) (hat w hw)
  have hk' : (Cond.classLink own ik nsN).before args s' = true := vx_ot_at hW0 hvm.symm (hgood _ List.mem_cons_self) hk
  have hini' : (Cond.initialized nsN).before args s' = true := vx_ot_at hW0 hvm.symm (hgood _ (List.mem_cons_of_mem _ List.mem_cons_self)) hini
  have hU' : vx_Zq Bundle.tN "UNASSIGNED_STACK" Bundle.steD A s' s'.heap := by rw [hhp]; exact vx_Zq.moved hW0.alike (hU.kept hS.2.1)
  have hN' : vx_Zq Bundle.tN "SUPPRESSED_SENTINEL" Bundle.listD A s' s'.heap := by rw [hhp]; exact vx_Zq.moved hW0.alike (hN.kept hS.2.1)
  have h : ∀ w ∈ nsL own ic, w.before args s' = true := vx_own hat' (vx_isRefq hU'.1) (vx_isRefq hN'.1) hU'.2.word hN'.2.word
  have hown' : s'.vm.findClass own = some m.cls := by rw [hvm]; exact hown
  have hins : (Cond.instantiable nsN 6).before args s' = true := h _ (by simp [nsL])
  obtain ⟨vm₁, cX, kX, hfX, hkX, -, -, X₁, st1⟩ := Y.newCold hexec (own := own) (C := nsN) (index := ik) (n := 6) hown' hk' hins hini'
    (g := F0 m pc ls rest) rfl (by rw [hb]; exact d0) (Nat.le_refl _) (Nat.le_refl _)
  generalize hT1 : (T.setVm vm₁).pushCell { cls := cX, slots := kX.instanceTypes.map defaultValue, vm := .none } = T1 at X₁ st1
  have hcat : (Value.ref T.heap.size).category = 1 := rfl
  have hcellA : T1.heap[T.heap.size]? = some (freshCell cX kX) := by rw [← hT1]; exact State.heap_pushCell_size _ _
  have d3' : decode c.code (pc + 3) = .ok (.dup, 1) := by rw [hb]; exact d3
  have d4' : decode c.code (pc + 4) = .ok (.ldc_w is, 3) := by rw [hb]; exact d4
  have hstr' : vk_R own is text sa s' := vk_R.warm hW0 hstr
  obtain ⟨U, hsteps, hrun, hend, hW, hsame, ce, hce, hcl', hvm'⟩ := ns_ctor X₁ hexec htr (own := own) (ic := ic) hown' h (fun x hx => nomatch hx) hfX hkX hcellA (by rw [hhp, hT]; exact Nat.le_refl _) (msg := .ref sa) rfl
    (g := { method := m, pc := pc + 7, locals := ls, stack := .ref sa :: .ref T.heap.size :: .ref T.heap.size :: rest, locked := none }) rfl hsize rfl rfl (rest := rest) rfl
    (by rw [hb]; exact d7) (by rw [hb]; exact d10) hout hRframes (by simp only [List.map_cons, List.sum_cons, hcat]; omega) hlocks
  obtain ⟨f1, f2⟩ := vx_frame hsame
  rw [hhp] at f1 f2
  have hWs : s.WarmedH U.vm := State.WarmedH.trans hW0 hW
  have hcl : s.vm.findClass nsN = some ce.cls := by
    rw [hvm] at hcl'
    exact hcl'
  have hall : s.sameButNew ({ U with vm := s.vm } : State) locs mc ms := by
    subst hA
    obtain ⟨e1, e2⟩ := hsame
    rw [State.setFrames_setFrames] at e1
    have h2 : (T.setVm s.vm).sameButNew ({ U with vm := s.vm } : State) [] (0 + 1) (0 + 6) := ⟨e1, e2⟩
    have h3 := X.same.trans h2
    rw [List.append_nil] at h3
    exact h3.mono hc hs
  refine ⟨U, ?_, .threw T.heap.size, hrun, hend, Or.inr ⟨T.heap.size, rfl, nsN, ce, locs, hx U hWs.alike f1 (fun q hq => f2 q hq (fun z hz => nomatch hz)), hce, hvm', hcl, hWs, hall, hf⟩⟩
  refine st1 _ ?_
  show Steps p.tables e below (T1.setTop { method := m, pc := pc + 3, locals := ls, stack := .ref T.heap.size :: rest, locked := none }) _
  jvm_step X₁.here [X₁.here.top, hexec, d3', Value.category]
  exact X₁.ldcStringW hexec (own := own) (text := text) (index := is) (a := sa) hown' hstr'.1 hstr'.2
    (g := { method := m, pc := pc + 4, locals := ls, stack := .ref T.heap.size :: .ref T.heap.size :: rest, locked := none }) rfl d4' _ hsteps
end
section
variable {G : MC} {cc : ByteArray} {own : String} {X M : XF} {K : KF} {L : List (Nat × Value)} {k n pc mc ms : Nat}
theorem g_throwN {Qc : Array Value → State → Outcome → State → Prop} {px : String → XF → XF → KF → Prop} {text : String} {ik is ic i : Nat} (C : Cx G cc RX10) (hst : (gl G).stackTraces = false) (ht : ∀ x ∈ (gc G).exceptionTable.toList, False) (hQ : gQ G = vx_MQ (gbe G) Qc (XcW (gD G) (gcy G) (gA G) (gad G) px) (gas G) (gs G) mc ms (gA G))
    (hat : lwB ((nsL RX10 ic).filter vx_no) = true) (hot : ∀ w ∈ Cond.classLink RX10 ik nsN :: Cond.initialized nsN :: (nsL RX10 ic).filter vx_no, vx_ot w = true) (hk : Cond.classLink RX10 ik nsN ∈ lw_all) (hini : Cond.initialized nsN ∈ lw_all) (hi : i < txN.length ∧ txN.getD i (0, "") = (is, text))
    (d0 : decode cc pc = .ok (.new ik, 3)) (d3 : decode cc (pc + 3) = .ok (.dup, 1)) (d4 : decode cc (pc + 4) = .ok (.ldc_w is, 3)) (d7 : decode cc (pc + 7) = .ok (.invokespecial ic, 3)) (d10 : decode cc (pc + 10) = .ok (.athrow, 1))
    (hR : 5 < (gR G).frames ∧ 13 * 3 + 43 ≤ (gR G).locals) (hf : k + 1 ≤ (gR G).cells ∧ n + 6 ≤ (gR G).slots) (hm : k + 1 ≤ mc ∧ n + 6 ≤ ms) (hp : px nsN X M K) : GH G (WX G X M K) L k n pc [] := by
  intro H locs ls hl hw hS
  rw [hQ]
  have hsr := C.gl.2.2.2.1 i hi.1
  rw [hi.2] at hsr
  refine ns_throw C.x C.b hst C.o (C.ts _ hk) (C.ts _ hini) hsr (lwB_at C hat) hot C.gl.1 C.gl.2.1 hS (hl.1.trans C.ml.symm) d0 d3 d4 d7 d10 (fun x hx => (ht x hx).elim) hR.1 (by simpa using hR.2) hf.1 hf.2 C.lk ?_ hS.2.2 hm.1 hm.2
  intro t ha hz hq
  exact ⟨(X, M, K), trivial, ⟨hp, hw.kept hq⟩, Nat.le_trans hS.1 hz, fun q h1 h2 => (hq q (Nat.lt_of_lt_of_le h1 hS.1)).trans (hS.2.1 q h1 h2)⟩
end
theorem th_321 : lwB ((nsL RX10 321).filter vx_no) = true := by decide +kernel
theorem th_ot_321 : ∀ w ∈ Cond.classLink RX10 317 nsN :: Cond.initialized nsN :: (nsL RX10 321).filter vx_no, vx_ot w = true := by decide +kernel

set_option maxHeartbeats 400000 in
set_option maxRecDepth 100000 in
/-- cause.cause -/
theorem c_X10_cause (l : Launch) (D : va_G) (cy : Nat → ClassId) (A : Nat → Prop) (ad sad : Nat → Nat) (X M : XF) (K : KF) (hc : isCh (X 111 0)) (hst : l.stackTraces = false) : vx_Met l yX10_cause (wsA yX10_cause cX10_cause 1 (some .char)) ({ frames := 6, cells := 1, slots := 6, locals := 82 }) (PcW D cy A ad sad X M K [.ref (ad 0)]) (QiW D cy A ad (fun r X1 M1 K1 => xk_cau (X 118 0) = 0 ∧ r = X 111 0 ∧ X1 = X ∧ M1 = M ∧ K1 = K)) (XcW D cy A ad (fun E X1 M1 K1 => ¬ xk_cau (X 118 0) = 0 ∧ E = xn "java/util/NoSuchElementException" "java/util/NoSuchElementException" "java/util/NoSuchElementException" (xk_cau (X 118 0)) ∧ X1 = X ∧ M1 = M ∧ K1 = K)) 1 6 A := by
  refine vet_ofW [(0, .ref (ad 0))] (by decide +kernel) (Nat.le_of_ble_eq_true rfl) rfl ?_
  intro G C hl hR hL hD hcy hA had hsa hr ht hQ
  subst hD hcy hA had hsa hl
  refine g_aload_n C dX10_cause_0 0 rfl ?_
  refine g_callViW C dX10_cause_1 (c_X10_isThereCause _ _ _ _ _ _ _ _ _ ) tw1063 tw1065 tp15 tw1 tw1066 (rv_X10 C) rfl ⟨by decide +kernel, by decide +kernel, rfl⟩ ⟨rfl, rfl⟩ (by rw [hR]; decide) (Nat.le_of_ble_eq_true rfl) (by rw [hR]; decide) (fun r_1 X1 M1 K1 h_2 => ?_)
  obtain ⟨er_1, hX1, hM1, hK1⟩ := h_2
  subst X1 M1 K1
  try simp only [sa_ap, si_ap, reduceIte, Nat.reduceEqDiff] at er_1
  refine g_if_ne C dX10_cause_4 (tgt := 18) (by decide) (fun c_4 => ?_) (fun c_4 => ?_)
  · try simp only [sa_ap, si_ap, reduceIte, Nat.reduceEqDiff, up_us, lg_cmp_lt, lg_cmp_gt, lg_cmp_le, lg_cmp_ge] at c_4
    refine g_aload_n C dX10_cause_18 0 rfl ?_
    refine gf_X10_countdown C tw330 dX10_cause_19 ?_
    refine gf_X1_cause C tw226 dX10_cause_22 ?_
    refine g_zretWX C hr hc.1 hQ (by decide) (by decide) dX10_cause_25 ?_
    exact ⟨(by first | with_reducible rfl | (subst er_1; first | with_reducible rfl | (simp only [sa_ap, si_ap, si_sa, sa_sa, sa_3, sa_4, sa_5, sa_6, sa_7, sa_8, xk_cau, xn, up_us, up_up, c_4]; done) | (simp [sa_ap, si_ap, si_sa, sa_sa, sa_3, sa_4, sa_5, sa_6, sa_7, sa_8, xk_cau, xn, up_us, up_up, c_4]; done))), (by first | with_reducible rfl | (subst er_1; first | with_reducible rfl | (simp only [sa_ap, si_ap, si_sa, sa_sa, sa_3, sa_4, sa_5, sa_6, sa_7, sa_8, xk_cau, xn, up_us, up_up, c_4]; done) | (simp [sa_ap, si_ap, si_sa, sa_sa, sa_3, sa_4, sa_5, sa_6, sa_7, sa_8, xk_cau, xn, up_us, up_up, c_4]; done))), (by first | with_reducible rfl | (subst er_1; first | with_reducible rfl | (simp only [sa_ap, si_ap, si_sa, sa_sa, sa_3, sa_4, sa_5, sa_6, sa_7, sa_8, xk_cau, xn, up_us, up_up, c_4]; done) | (simp [sa_ap, si_ap, si_sa, sa_sa, sa_3, sa_4, sa_5, sa_6, sa_7, sa_8, xk_cau, xn, up_us, up_up, c_4]; done))), rfl, rfl⟩
  · try simp only [sa_ap, si_ap, reduceIte, Nat.reduceEqDiff, up_us, lg_cmp_lt, lg_cmp_gt, lg_cmp_le, lg_cmp_ge] at c_4
    refine g_throwN C hst ht hQ th_321 th_ot_321 tw1067 tw32 (i := 26) ⟨by decide, rfl⟩ dX10_cause_7 dX10_cause_10 dX10_cause_11 dX10_cause_14 dX10_cause_17 (by rw [hR]; decide) (by rw [hR]; decide) (by decide) ?_
    exact ⟨(by first | with_reducible rfl | (subst er_1; first | with_reducible rfl | (simp only [sa_ap, si_ap, si_sa, sa_sa, sa_3, sa_4, sa_5, sa_6, sa_7, sa_8, xk_cau, xn, up_us, up_up, c_4]; done) | (simp [sa_ap, si_ap, si_sa, sa_sa, sa_3, sa_4, sa_5, sa_6, sa_7, sa_8, xk_cau, xn, up_us, up_up, c_4]; done))), (by first | with_reducible rfl | (subst er_1; first | with_reducible rfl | (simp only [sa_ap, si_ap, si_sa, sa_sa, sa_3, sa_4, sa_5, sa_6, sa_7, sa_8, xk_cau, xn, up_us, up_up, c_4]; done) | (simp [sa_ap, si_ap, si_sa, sa_sa, sa_3, sa_4, sa_5, sa_6, sa_7, sa_8, xk_cau, xn, up_us, up_up, c_4]; done))), (by first | with_reducible rfl | (subst er_1; first | with_reducible rfl | (simp only [sa_ap, si_ap, si_sa, sa_sa, sa_3, sa_4, sa_5, sa_6, sa_7, sa_8, xk_cau, xn, up_us, up_up, c_4]; done) | (simp [sa_ap, si_ap, si_sa, sa_sa, sa_3, sa_4, sa_5, sa_6, sa_7, sa_8, xk_cau, xn, up_us, up_up, c_4]; done))), rfl, rfl⟩

set_option maxHeartbeats 400000 in
set_option maxRecDepth 100000 in
/-- causeRule.causeRule -/
theorem c_X10_causeRule (l : Launch) (D : va_G) (cy : Nat → ClassId) (A : Nat → Prop) (ad sad : Nat → Nat) (X M : XF) (K : KF) (hst : l.stackTraces = false) : vx_Met l yX10_causeRule (wsA yX10_causeRule cX10_causeRule 1 (some .int)) ({ frames := 6, cells := 1, slots := 6, locals := 82 }) (PcW D cy A ad sad X M K [.ref (ad 0)]) (QiW D cy A ad (fun r X1 M1 K1 => xk_car (X 118 0) (X 112 0) = 0 ∧ r = X 112 0 ∧ X1 = X ∧ M1 = M ∧ K1 = K)) (XcW D cy A ad (fun E X1 M1 K1 => ¬ xk_car (X 118 0) (X 112 0) = 0 ∧ E = xn "java/util/NoSuchElementException" "java/util/NoSuchElementException" "java/util/NoSuchElementException" (xk_car (X 118 0) (X 112 0)) ∧ X1 = X ∧ M1 = M ∧ K1 = K)) 1 6 A := by
  refine vet_ofW [(0, .ref (ad 0))] (by decide +kernel) (Nat.le_of_ble_eq_true rfl) rfl ?_
  intro G C hl hR hL hD hcy hA had hsa hr ht hQ
  subst hD hcy hA had hsa hl
  refine g_aload_n C dX10_causeRule_0 0 rfl ?_
  refine g_callViW C dX10_causeRule_1 (c_X10_isThereCause _ _ _ _ _ _ _ _ _ ) tw1063 tw1065 tp15 tw1 tw1066 (rv_X10 C) rfl ⟨by decide +kernel, by decide +kernel, rfl⟩ ⟨rfl, rfl⟩ (by rw [hR]; decide) (Nat.le_of_ble_eq_true rfl) (by rw [hR]; decide) (fun r_1 X1 M1 K1 h_2 => ?_)
  obtain ⟨er_1, hX1, hM1, hK1⟩ := h_2
  subst X1 M1 K1
  try simp only [sa_ap, si_ap, reduceIte, Nat.reduceEqDiff] at er_1
  refine g_if_eq C dX10_causeRule_4 (tgt := 18) (by decide) (fun c_4 => ?_) (fun c_4 => ?_)
  · try simp only [sa_ap, si_ap, reduceIte, Nat.reduceEqDiff, up_us, lg_cmp_lt, lg_cmp_gt, lg_cmp_le, lg_cmp_ge] at c_4
    refine g_throwN C hst ht hQ th_321 th_ot_321 tw1067 tw32 (i := 27) ⟨by decide, rfl⟩ dX10_causeRule_18 dX10_causeRule_21 dX10_causeRule_22 dX10_causeRule_25 dX10_causeRule_28 (by rw [hR]; decide) (by rw [hR]; decide) (by decide) ?_
    exact ⟨(by first | with_reducible rfl | (subst er_1; first | with_reducible rfl | (simp only [sa_ap, si_ap, si_sa, sa_sa, sa_3, sa_4, sa_5, sa_6, sa_7, sa_8, xk_car, xn, up_us, up_up, c_4]; done) | (simp [sa_ap, si_ap, si_sa, sa_sa, sa_3, sa_4, sa_5, sa_6, sa_7, sa_8, xk_car, xn, up_us, up_up, c_4]; done))), (by first | with_reducible rfl | (subst er_1; first | with_reducible rfl | (simp only [sa_ap, si_ap, si_sa, sa_sa, sa_3, sa_4, sa_5, sa_6, sa_7, sa_8, xk_car, xn, up_us, up_up, c_4]; done) | (simp [sa_ap, si_ap, si_sa, sa_sa, sa_3, sa_4, sa_5, sa_6, sa_7, sa_8, xk_car, xn, up_us, up_up, c_4]; done))), (by first | with_reducible rfl | (subst er_1; first | with_reducible rfl | (simp only [sa_ap, si_ap, si_sa, sa_sa, sa_3, sa_4, sa_5, sa_6, sa_7, sa_8, xk_car, xn, up_us, up_up, c_4]; done) | (simp [sa_ap, si_ap, si_sa, sa_sa, sa_3, sa_4, sa_5, sa_6, sa_7, sa_8, xk_car, xn, up_us, up_up, c_4]; done))), rfl, rfl⟩
  · try simp only [sa_ap, si_ap, reduceIte, Nat.reduceEqDiff, up_us, lg_cmp_lt, lg_cmp_gt, lg_cmp_le, lg_cmp_ge] at c_4
    refine g_aload_n C dX10_causeRule_7 0 rfl ?_
    refine gf_X10_countdown C tw330 dX10_causeRule_8 ?_
    refine gf_X1_causeRule C tw228 dX10_causeRule_11 ?_
    refine g_iconst C dX10_causeRule_14 (v := (-1)) (by decide) ?_
    refine g_icmp_ne C dX10_causeRule_15 (tgt := 29) (by decide) (fun c_15 => ?_) (fun c_15 => ?_)
    · try simp only [sa_ap, si_ap, reduceIte, Nat.reduceEqDiff, up_us, lg_cmp_lt, lg_cmp_gt, lg_cmp_le, lg_cmp_ge] at c_15
      refine g_aload_n C dX10_causeRule_29 0 rfl ?_
      refine gf_X10_countdown C tw330 dX10_causeRule_30 ?_
      refine gf_X1_causeRule C tw228 dX10_causeRule_33 ?_
      refine g_iretWX C hr hQ (by decide) (by decide) dX10_causeRule_36 ?_
      exact ⟨(by first | with_reducible rfl | (subst er_1; first | with_reducible rfl | (simp only [sa_ap, si_ap, si_sa, sa_sa, sa_3, sa_4, sa_5, sa_6, sa_7, sa_8, xk_car, xn, up_us, up_up, c_4, c_15]; done) | (simp [sa_ap, si_ap, si_sa, sa_sa, sa_3, sa_4, sa_5, sa_6, sa_7, sa_8, xk_car, xn, up_us, up_up, c_4, c_15]; done))), (by first | with_reducible rfl | (subst er_1; first | with_reducible rfl | (simp only [sa_ap, si_ap, si_sa, sa_sa, sa_3, sa_4, sa_5, sa_6, sa_7, sa_8, xk_car, xn, up_us, up_up, c_4, c_15]; done) | (simp [sa_ap, si_ap, si_sa, sa_sa, sa_3, sa_4, sa_5, sa_6, sa_7, sa_8, xk_car, xn, up_us, up_up, c_4, c_15]; done))), (by first | with_reducible rfl | (subst er_1; first | with_reducible rfl | (simp only [sa_ap, si_ap, si_sa, sa_sa, sa_3, sa_4, sa_5, sa_6, sa_7, sa_8, xk_car, xn, up_us, up_up, c_4, c_15]; done) | (simp [sa_ap, si_ap, si_sa, sa_sa, sa_3, sa_4, sa_5, sa_6, sa_7, sa_8, xk_car, xn, up_us, up_up, c_4, c_15]; done))), rfl, rfl⟩
    · try simp only [sa_ap, si_ap, reduceIte, Nat.reduceEqDiff, up_us, lg_cmp_lt, lg_cmp_gt, lg_cmp_le, lg_cmp_ge] at c_15
      refine g_throwN C hst ht hQ th_321 th_ot_321 tw1067 tw32 (i := 27) ⟨by decide, rfl⟩ dX10_causeRule_18 dX10_causeRule_21 dX10_causeRule_22 dX10_causeRule_25 dX10_causeRule_28 (by rw [hR]; decide) (by rw [hR]; decide) (by decide) ?_
      exact ⟨(by first | with_reducible rfl | (subst er_1; first | with_reducible rfl | (simp only [sa_ap, si_ap, si_sa, sa_sa, sa_3, sa_4, sa_5, sa_6, sa_7, sa_8, xk_car, xn, up_us, up_up, c_4, c_15]; done) | (simp [sa_ap, si_ap, si_sa, sa_sa, sa_3, sa_4, sa_5, sa_6, sa_7, sa_8, xk_car, xn, up_us, up_up, c_4, c_15]; done))), (by first | with_reducible rfl | (subst er_1; first | with_reducible rfl | (simp only [sa_ap, si_ap, si_sa, sa_sa, sa_3, sa_4, sa_5, sa_6, sa_7, sa_8, xk_car, xn, up_us, up_up, c_4, c_15]; done) | (simp [sa_ap, si_ap, si_sa, sa_sa, sa_3, sa_4, sa_5, sa_6, sa_7, sa_8, xk_car, xn, up_us, up_up, c_4, c_15]; done))), (by first | with_reducible rfl | (subst er_1; first | with_reducible rfl | (simp only [sa_ap, si_ap, si_sa, sa_sa, sa_3, sa_4, sa_5, sa_6, sa_7, sa_8, xk_car, xn, up_us, up_up, c_4, c_15]; done) | (simp [sa_ap, si_ap, si_sa, sa_sa, sa_3, sa_4, sa_5, sa_6, sa_7, sa_8, xk_car, xn, up_us, up_up, c_4, c_15]; done))), rfl, rfl⟩

