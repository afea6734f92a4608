/-! texts under way: a builder's cell at p0, its row of bytes at p1, of any list of cells -/
def tCell (a b n : Nat) : Nat × va_E := (a, .inr (12, [.ref b, .int 0, .int 0, .int (nI n)]))
def tRow (cb : ClassId) (b cap : Nat) (f : Nat → Int32) : Nat × va_E := (b, .inl (cb, cap, .inl f))
def wT (cb : ClassId) (ws : va_W) (p0 p1 a b n cap : Nat) (f : Nat → Int32) : va_W := (ws.set p0 (tCell a b n)).set p1 (tRow cb b cap f)
def okP (ws : va_W) (p0 p1 : Nat) : Prop := p0 < ws.length ∧ p1 < ws.length ∧ p0 ≠ p1
theorem wT_0 {cb : ClassId} {ws : va_W} {p0 p1 a b n cap : Nat} {f : Nat → Int32} (h : okP ws p0 p1) : (wT cb ws p0 p1 a b n cap f)[p0]? = some (tCell a b n) := by
  unfold wT
  rw [List.getElem?_set_ne (Ne.symm h.2.2), List.getElem?_set_self h.1]
theorem wT_1 {cb : ClassId} {ws : va_W} {p0 p1 a b n cap : Nat} {f : Nat → Int32} (h : okP ws p0 p1) : (wT cb ws p0 p1 a b n cap f)[p1]? = some (tRow cb b cap f) := by
  unfold wT
  rw [List.getElem?_set_self (by rw [List.length_set]; exact h.2.1)]
theorem wT_s0 {cb : ClassId} {ws : va_W} {p0 p1 a b n n' cap : Nat} {f : Nat → Int32} (h : okP ws p0 p1) : (wT cb ws p0 p1 a b n cap f).set p0 (tCell a b n') = wT cb ws p0 p1 a b n' cap f := by
  unfold wT
  rw [List.set_comm _ _ (Ne.symm h.2.2), List.set_set]
theorem wT_s1 {cb : ClassId} {ws : va_W} {p0 p1 a b n cap : Nat} {f f' : Nat → Int32} : (wT cb ws p0 p1 a b n cap f).set p1 (tRow cb b cap f') = wT cb ws p0 p1 a b n cap f' := by
  unfold wT
  rw [List.set_set]
/-- the row grown: the new row, pushed, comes to the old one's place -/
theorem wT_grow {cb : ClassId} {ws : va_W} {p0 p1 a b q n cap cap' : Nat} {f f' : Nat → Int32} (h : okP ws p0 p1) (k : Nat) (x : Nat × va_E) (hk : (wT cb ws p0 p1 a q n cap' f')[k]? = some x) : ((wT cb ws p0 p1 a b n cap f ++ [tRow cb q cap' f']).set p0 (tCell a q n))[if k = p1 then ws.length else k]? = some x := by
  have hl : (wT cb ws p0 p1 a b n cap f).length = ws.length := by unfold wT; rw [List.length_set, List.length_set]
  by_cases e : k = p1
  · subst e
    rw [if_pos rfl, List.getElem?_set_ne (by have := h.1; omega), List.getElem?_append_right (by omega), hl, Nat.sub_self]
    rw [wT_1 h] at hk
    exact hk
  · rw [if_neg e]
    by_cases e0 : k = p0
    · subst e0
      rw [List.getElem?_set_self (by rw [List.length_append]; have := h.1; omega)]
      rw [wT_0 h] at hk
      exact hk
    · unfold wT at hk
      rw [List.getElem?_set_ne (Ne.symm e), List.getElem?_set_ne (Ne.symm e0)] at hk
      have hlt : k < ws.length := (List.getElem?_eq_some_iff.mp hk).1
      rw [List.getElem?_set_ne (Ne.symm e0), List.getElem?_append_left (by omega)]
      unfold wT
      rw [List.getElem?_set_ne (Ne.symm e), List.getElem?_set_ne (Ne.symm e0)]
      exact hk
abbrev WTx (G : MC) (ws : va_W) (p0 p1 a b n cap : Nat) (f : Nat → Int32) : Heap → Prop := WB G (wT (gcy G 3) ws p0 p1 a b n cap f)
def RA : String := "java/lang/AbstractStringBuilder"
section
variable {G : MC} {cc : ByteArray} {own : String} {ws : va_W} {p0 p1 a b n cap : Nat} {f : Nat → Int32} {L : List (Nat × Value)} {k j pc : Nat} {stk : List Value} {Wp : Heap → Prop}
theorem gT_value (C : Cx G cc own) (hp : okP ws p0 p1) {idx : Nat} (hk : Cond.fieldLink own idx RA "value" "[B" ∈ lw_all) (d : decode cc pc = .ok (.getfield idx, 3)) (kk : GH G (WTx G ws p0 p1 a b n cap f) L k j (pc + 3) (.ref b :: stk)) : GH G (WTx G ws p0 p1 a b n cap f) L k j pc (.ref a :: stk) := fun H locs ls hl hw hS => va_get C.x C.b C.ts inT_J4 C.o C.K hw.1 p0 (wT_0 hp) (rfl : clT[12]? = _) 0 (by decide) (C.ts _ hk) (fun _ h => h) rfl d (kk H locs ls hl hw hS)
theorem gT_coder (C : Cx G cc own) (hp : okP ws p0 p1) {idx : Nat} (hk : Cond.fieldLink own idx RA "coder" "B" ∈ lw_all) (d : decode cc pc = .ok (.getfield idx, 3)) (kk : GH G (WTx G ws p0 p1 a b n cap f) L k j (pc + 3) (.int 0 :: stk)) : GH G (WTx G ws p0 p1 a b n cap f) L k j pc (.ref a :: stk) := fun H locs ls hl hw hS => va_get C.x C.b C.ts inT_J4 C.o C.K hw.1 p0 (wT_0 hp) (rfl : clT[12]? = _) 1 (by decide) (C.ts _ hk) (fun _ h => h) rfl d (kk H locs ls hl hw hS)
theorem gT_count (C : Cx G cc own) (hp : okP ws p0 p1) {idx : Nat} (hk : Cond.fieldLink own idx RA "count" "I" ∈ lw_all) (d : decode cc pc = .ok (.getfield idx, 3)) (kk : GH G (WTx G ws p0 p1 a b n cap f) L k j (pc + 3) (.int (nI n) :: stk)) : GH G (WTx G ws p0 p1 a b n cap f) L k j pc (.ref a :: stk) := fun H locs ls hl hw hS => va_get C.x C.b C.ts inT_J4 C.o C.K hw.1 p0 (wT_0 hp) (rfl : clT[12]? = _) 3 (by decide) (C.ts _ hk) (fun _ h => h) rfl d (kk H locs ls hl hw hS)
theorem pT_count (C : Cx G cc own) (hp : okP ws p0 p1) {idx n' : Nat} (hk : Cond.fieldLink own idx RA "count" "I" ∈ lw_all) (d : decode cc pc = .ok (.putfield idx, 3)) (kk : GH G (WTx G ws p0 p1 a b n' cap f) L k j (pc + 3) stk) : GH G (WTx G ws p0 p1 a b n cap f) L k j pc (.int (nI n') :: .ref a :: stk) := fun H locs ls hl hw hS =>
  va_put C.x C.b C.ts inT_J4 tyJ4 tyJ4_ok nmJ4 C.o C.K hw.1 hw.2 hS p0 (wT_0 hp) (rfl : clT[12]? = _) 3 (by decide) (C.ts _ hk) (fun _ h => h) rfl (ty := .int) (by decide +kernel) rfl rfl (Nat.le_of_ble_eq_true rfl) d (fun H1 locs1 hP hD hS1 => kk H1 locs1 ls hl ⟨by have h := hP; rw [show (a, Sum.inr (12, [Value.ref b, Value.int 0, Value.int 0, Value.int (nI n)].set 3 (Value.int (nI n')))) = tCell a b n' from rfl, wT_s0 hp] at h; exact h, by have h := hD; rw [show (a, Sum.inr (12, [Value.ref b, Value.int 0, Value.int 0, Value.int (nI n)].set 3 (Value.int (nI n')))) = tCell a b n' from rfl, wT_s0 hp] at h; exact h⟩ hS1)
theorem aT_ld (C : Cx G cc own) (hp : okP ws p0 p1) {i : Nat} (hi : i < cap) (hN : cap < 2 ^ 31) (d : decode cc pc = .ok (.baload, 1)) (kk : GH G (WTx G ws p0 p1 a b n cap f) L k j (pc + 1) (.int (f i) :: stk)) : GH G (WTx G ws p0 p1 a b n cap f) L k j pc (.int (nI i) :: .ref b :: stk) := by
  intro H locs ls hl hw hS
  refine va_bald C.x C.b C.K hw.1 p1 3 (wT_1 hp) rfl (vp_in_nI hi hN) d ?_
  rw [nI_clamp (by omega)]
  exact kk H locs ls hl hw hS
theorem aT_st (C : Cx G cc own) (hp : okP ws p0 p1) {i : Nat} {x : Int32} (hi : i < cap) (hN : cap < 2 ^ 31) (d : decode cc pc = .ok (.bastore, 1)) (kk : GH G (WTx G ws p0 p1 a b n cap (upd f i (vp_nar .byte x))) L k j (pc + 1) stk) : GH G (WTx G ws p0 p1 a b n cap f) L k j pc (.int x :: .int (nI i) :: .ref b :: stk) := by
  intro H locs ls hl hw hS
  refine va_bast C.x C.b C.K hw.1 hw.2 hS p1 3 (wT_1 hp) rfl (vp_in_nI hi hN) d (fun H1 locs1 hP hD hS1 => ?_)
  rw [nI_clamp (by omega), show (b, Sum.inl (gcy G 3, cap, Sum.inl (upd f i (vp_nar .byte x)))) = tRow (gcy G 3) b cap (upd f i (vp_nar .byte x)) from rfl, wT_s1] at hP hD
  exact kk H1 locs1 ls hl ⟨hP, hD⟩ hS1
theorem alT (C : Cx G cc own) (hp : okP ws p0 p1) (d : decode cc pc = .ok (.arraylength, 1)) (kk : GH G (WTx G ws p0 p1 a b n cap f) L k j (pc + 1) (.int (nI cap) :: stk)) : GH G (WTx G ws p0 p1 a b n cap f) L k j pc (.ref b :: stk) := fun H locs ls hl hw hS => va_alen C.x C.b C.K hw.1 p1 3 (wT_1 hp) rfl rfl d (kk H locs ls hl hw hS)
theorem g_compact (C : Cx G cc own) {idx : Nat} (hk : Cond.fieldLink own idx "java/lang/String" "COMPACT_STRINGS" "Z" ∈ lw_all) (d : decode cc pc = .ok (.getstatic idx, 3)) (kk : GH G Wp L k j (pc + 3) (.int 1 :: stk)) : GH G Wp L k j pc stk := fun H locs ls hl hw hS => va_gets C.x C.b C.gl.2.2.1 hS C.o (C.ts _ hk) (fun _ h => h) d (kk H locs ls hl hw hS)
theorem g_sioobe (C : Cx G cc own) {idx : Nat} (hk : Cond.fieldLink own idx "jdk/internal/util/Preconditions" "SIOOBE_FORMATTER" fmtD ∈ lw_all) (d : decode cc pc = .ok (.getstatic idx, 3)) (kn : GH G Wp L k j (pc + 3) (.null :: stk)) (kr : ∀ t : Nat, GH G Wp L k j (pc + 3) (.ref t :: stk)) : GH G Wp L k j pc stk := fun H locs ls hl hw hS => by
  rcases C.gl.2.2.2.2.2.2.2.2.1.1 with h | ⟨t, h⟩
  · exact va_gets C.x C.b h hS C.o (C.ts _ hk) (fun _ h => h) d (kn H locs ls hl hw hS)
  · exact va_gets C.x C.b h hS C.o (C.ts _ hk) (fun _ h => h) d (kr t H locs ls hl hw hS)
theorem g_ones (C : Cx G cc own) {idx : Nat} (hk : Cond.fieldLink own idx "java/lang/Integer" "DigitOnes" "[B" ∈ lw_all) (d : decode cc pc = .ok (.getstatic idx, 3)) (kk : ∀ t : Nat, va_T .byte t 100 (fun j => .int (nI (48 + j % 10))) (gA G) (gs G) (gs G).heap → GH G Wp L k j (pc + 3) (.ref t :: stk)) : GH G Wp L k j pc stk := fun H locs ls hl hw hS => by
  obtain ⟨t, h1, h2⟩ := C.gl.2.2.2.2.2.2.2.2.2.1
  exact va_gets C.x C.b h1 hS C.o (C.ts _ hk) (fun _ h => h) d (kk t h2 H locs ls hl hw hS)
theorem g_tens (C : Cx G cc own) {idx : Nat} (hk : Cond.fieldLink own idx "java/lang/Integer" "DigitTens" "[B" ∈ lw_all) (d : decode cc pc = .ok (.getstatic idx, 3)) (kk : ∀ t : Nat, va_T .byte t 100 (fun j => .int (nI (48 + j / 10))) (gA G) (gs G) (gs G).heap → GH G Wp L k j (pc + 3) (.ref t :: stk)) : GH G Wp L k j pc stk := fun H locs ls hl hw hS => by
  obtain ⟨t, h1, h2⟩ := C.gl.2.2.2.2.2.2.2.2.2.2.1
  exact va_gets C.x C.b h1 hS C.o (C.ts _ hk) (fun _ h => h) d (kk t h2 H locs ls hl hw hS)
theorem g_tabl (C : Cx G cc own) {t i : Nat} {g : Nat → Int32} (hT : va_T .byte t 100 (fun j => .int (g j)) (gA G) (gs G) (gs G).heap) (hi : i < 100) (d : decode cc pc = .ok (.baload, 1)) (kk : GH G Wp L k j (pc + 1) (.int (g i) :: stk)) : GH G Wp L k j pc (.int (nI i) :: .ref t :: stk) := fun H locs ls hl hw hS => va_tb C.x C.b hT hS (vp_in_nI hi (by omega)) (by rw [nI_clamp (by omega)]) d (kk H locs ls hl hw hS)
theorem rvT (C : Cx G cc own) (hp : okP ws p0 p1) : ∀ H, WTx G ws p0 p1 a b n cap f H → ∃ cellB : Cell, H[a]? = some cellB ∧ cellB.vm.isStatics = false ∧ (gs G).vm.findClass RJ4 = some cellB.cls := fun H hw => va_recv (q := (RJ4, TJ4, 4)) C.K hw.1 rfl (wT_0 hp)
theorem selT {y : MethodName} (C : Cx G cc own) (h : y ∈ selL) : (Cond.selects RJ4 y y).before (gas G) (gs G) = true := va_Nw.use rfl (C.gl.2.2.2.2.2.2.2.1 y h)
end
section
variable {G : MC} {cc : ByteArray} {own : String} {Wp : Heap → Prop} {L : List (Nat × Value)} {k n pc mc ms : Nat} {S : Type} {WQ : S → Heap → Prop} {y : MethodName} {bytes : ByteArray} {maxL idx b : Nat} {ret : Option FieldType} {rm : Room} {As rest st0 : List Value}
theorem g_cwU (C : Cx G cc own) {CC : String} (hlk : Cond.methodLink own idx y ∈ lw_all) (hsm : Cond.sameMethod y.cls y.cls y.name y.desc ∈ lw_all) (hin : Cond.instanceMethod y ∈ lw_all) (hse : (Cond.selects CC y y).before (gas G) (gs G) = true) (hini : Cond.initialized y.cls ∈ lw_all) (hco : Cond.code y bytes maxL ret ∈ lw_all)
    (hd : y.cls ≠ "java/lang/invoke/MethodHandle" ∧ y.cls ≠ "java/lang/invoke/VarHandle" ∧ (parseMethodDescriptor y.desc).map (fun d => d.parameters.length) = some As.length) (hrm : rm.cells = mc ∧ rm.slots = ms) (hR : rm.frames + 1 ≤ (gR G).frames ∧ 8 + (maxL + 11) + rm.locals ≤ (gR G).locals) : va_CU (gR G) (gs G) (gas G) own CC y.cls idx y y bytes maxL ret (wsA y bytes maxL ret) rm mc ms As.length := by
  refine ⟨⟨hrm.1, hrm.2, hR.1, hR.2, pay_in C.ts (goodA hco), List.mem_cons_self⟩, C.ts _ hco, C.ts _ hini, ⟨hd.1, hd.2.1⟩, fun sig h => ?_, C.ts _ hlk, C.ts _ hsm, va_Decl.of (C.ts _ hin) (C.ts _ hco), hse, C.ts _ hin⟩
  have h2 := hd.2.2
  rw [h] at h2
  exact (Option.some.inj h2).symm
theorem g_callUi {post : Int32 → S → Prop} (C : Cx G cc own) (hM : Met (gl G) y (wsA y bytes maxL ret) rm (PcH (gD G) (gcy G) (gA G) (gsa G) Wp (.ref b :: As)) (va_Qi post (fun u t => WQ u t.heap) (gA G)) mc ms (gA G)) {CC : String} (cw : va_CU (gR G) (gs G) (gas G) own CC y.cls idx y y bytes maxL ret (wsA y bytes maxL ret) rm mc ms As.length) (hrecv : ∀ H, Wp H → ∃ cellB : Cell, H[b]? = some cellB ∧ cellB.vm.isStatics = false ∧ (gs G).vm.findClass CC = some cellB.cls) (hst0 : st0 = As.reverse ++ .ref b :: rest) (hW : (rest.map fun v => v.category).sum ≤ 8) (d : decode cc pc = .ok (.invokevirtual idx, 3)) (hf : k + mc ≤ (gR G).cells ∧ n + ms ≤ (gR G).slots) (kk : ∀ (r : Int32) (u : S), post r u → GH G (WQ u) L (k + mc) (n + ms) (pc + 3) (.int r :: rest)) : GH G Wp L k n pc st0 := by
  intro H locs ls hl hw hS
  exact va_calli (va_runU (As := As) (rest := rest) C.fix hM cw ⟨PcH.blind, hrecv H hw, fun U hU hW => PcH.at C hw hS hU hW⟩ rfl rfl hl.1 hst0 (lv_room hW) d hf) hS (fun q _ h => h) (fun q h => h) (fun r u t H1 locs1 ht hvm hp hB hz hk hS1 => kk r u hp H1 locs1 ls hl (by rw [← ht]; exact hB) hS1)
theorem g_callUv {post : S → Prop} (C : Cx G cc own) (hM : Met (gl G) y (wsA y bytes maxL ret) rm (PcH (gD G) (gcy G) (gA G) (gsa G) Wp (.ref b :: As)) (va_Qv post (fun u t => WQ u t.heap) (gA G)) mc ms (gA G)) {CC : String} (cw : va_CU (gR G) (gs G) (gas G) own CC y.cls idx y y bytes maxL ret (wsA y bytes maxL ret) rm mc ms As.length) (hrecv : ∀ H, Wp H → ∃ cellB : Cell, H[b]? = some cellB ∧ cellB.vm.isStatics = false ∧ (gs G).vm.findClass CC = some cellB.cls) (hst0 : st0 = As.reverse ++ .ref b :: rest) (hW : (rest.map fun v => v.category).sum ≤ 8) (d : decode cc pc = .ok (.invokevirtual idx, 3)) (hf : k + mc ≤ (gR G).cells ∧ n + ms ≤ (gR G).slots) (kk : ∀ u : S, post u → GH G (WQ u) L (k + mc) (n + ms) (pc + 3) rest) : GH G Wp L k n pc st0 := by
  intro H locs ls hl hw hS
  exact va_callv (va_runU (As := As) (rest := rest) C.fix hM cw ⟨PcH.blind, hrecv H hw, fun U hU hW => PcH.at C hw hS hU hW⟩ rfl rfl hl.1 hst0 (lv_room hW) d hf) hS (fun q _ h => h) (fun q h => h) (fun u t H1 locs1 ht hvm hp hB hz hk hS1 => kk u hp H1 locs1 ls hl (by rw [← ht]; exact hB) hS1)
theorem g_cwSU (C : Cx G cc own) (hlk : Cond.methodLink own idx y ∈ lw_all) (hsm : Cond.sameMethod y.cls y.cls y.name y.desc ∈ lw_all) (hsu : Cond.superclass own y.cls ∈ lw_all) (hin : Cond.instanceMethod y ∈ lw_all) (hini : Cond.initialized y.cls ∈ lw_all) (hco : Cond.code y bytes maxL ret ∈ lw_all)
    (hd : y.name ≠ "<init>" ∧ (parseMethodDescriptor y.desc).map (fun d => d.parameters.length) = some As.length) (hrm : rm.cells = mc ∧ rm.slots = ms) (hR : rm.frames + 1 ≤ (gR G).frames ∧ 8 + (maxL + 11) + rm.locals ≤ (gR G).locals) : va_CS (gR G) (gs G) (gas G) own idx y bytes maxL ret (wsA y bytes maxL ret) rm mc ms As.length := by
  refine ⟨⟨hrm.1, hrm.2, hR.1, hR.2, pay_in C.ts (goodA hco), List.mem_cons_self⟩, C.ts _ hlk, C.ts _ hsm, C.ts _ hsu, C.ts _ hin, C.ts _ hini, C.ts _ hco, hd.1, fun sig h => ?_⟩
  have h2 := hd.2
  rw [h] at h2
  exact (Option.some.inj h2).symm
theorem g_callSUi {post : Int32 → S → Prop} (C : Cx G cc RJ4) (hM : Met (gl G) y (wsA y bytes maxL ret) rm (PcH (gD G) (gcy G) (gA G) (gsa G) Wp (.ref b :: As)) (va_Qi post (fun u t => WQ u t.heap) (gA G)) mc ms (gA G)) (cw : va_CS (gR G) (gs G) (gas G) RJ4 idx y bytes maxL ret (wsA y bytes maxL ret) rm mc ms As.length) (hrecv : ∀ H, Wp H → ∃ cellB : Cell, H[b]? = some cellB ∧ cellB.vm.isStatics = false ∧ (gs G).vm.findClass RJ4 = some cellB.cls) (hst0 : st0 = As.reverse ++ .ref b :: rest) (hW : (rest.map fun v => v.category).sum ≤ 8) (d : decode cc pc = .ok (.invokespecial idx, 3)) (hf : k + mc ≤ (gR G).cells ∧ n + ms ≤ (gR G).slots) (kk : ∀ (r : Int32) (u : S), post r u → GH G (WQ u) L (k + mc) (n + ms) (pc + 3) (.int r :: rest)) : GH G Wp L k n pc st0 := by
  intro H locs ls hl hw hS
  exact va_calli (va_runSU (As := As) (rest := rest) (C.K.1 12 _ rfl).2 C.fix hM cw ⟨PcH.blind, hrecv H hw, fun U hU hW => PcH.at C hw hS hU hW⟩ rfl rfl hl.1 hst0 (lv_room hW) d hf) hS (fun q _ h => h) (fun q h => h) (fun r u t H1 locs1 ht hvm hp hB hz hk hS1 => kk r u hp H1 locs1 ls hl (by rw [← ht]; exact hB) hS1)
theorem g_callSUv {post : S → Prop} (C : Cx G cc RJ4) (hM : Met (gl G) y (wsA y bytes maxL ret) rm (PcH (gD G) (gcy G) (gA G) (gsa G) Wp (.ref b :: As)) (va_Qv post (fun u t => WQ u t.heap) (gA G)) mc ms (gA G)) (cw : va_CS (gR G) (gs G) (gas G) RJ4 idx y bytes maxL ret (wsA y bytes maxL ret) rm mc ms As.length) (hrecv : ∀ H, Wp H → ∃ cellB : Cell, H[b]? = some cellB ∧ cellB.vm.isStatics = false ∧ (gs G).vm.findClass RJ4 = some cellB.cls) (hst0 : st0 = As.reverse ++ .ref b :: rest) (hW : (rest.map fun v => v.category).sum ≤ 8) (d : decode cc pc = .ok (.invokespecial idx, 3)) (hf : k + mc ≤ (gR G).cells ∧ n + ms ≤ (gR G).slots) (kk : ∀ u : S, post u → GH G (WQ u) L (k + mc) (n + ms) (pc + 3) rest) : GH G Wp L k n pc st0 := by
  intro H locs ls hl hw hS
  exact va_callv (va_runSU (As := As) (rest := rest) (C.K.1 12 _ rfl).2 C.fix hM cw ⟨PcH.blind, hrecv H hw, fun U hU hW => PcH.at C hw hS hU hW⟩ rfl rfl hl.1 hst0 (lv_room hW) d hf) hS (fun q _ h => h) (fun q h => h) (fun u t H1 locs1 ht hvm hp hB hz hk hS1 => kk u hp H1 locs1 ls hl (by rw [← ht]; exact hB) hS1)
theorem g_callSUr {WR : S → Nat → Heap → Prop} {post : S → Prop} (C : Cx G cc RJ4) (hM : Met (gl G) y (wsA y bytes maxL ret) rm (PcH (gD G) (gcy G) (gA G) (gsa G) Wp (.ref b :: As)) (va_Qr post (fun u ra t => WR u ra t.heap) (gA G)) mc ms (gA G)) (cw : va_CS (gR G) (gs G) (gas G) RJ4 idx y bytes maxL ret (wsA y bytes maxL ret) rm mc ms As.length) (hrecv : ∀ H, Wp H → ∃ cellB : Cell, H[b]? = some cellB ∧ cellB.vm.isStatics = false ∧ (gs G).vm.findClass RJ4 = some cellB.cls) (hst0 : st0 = As.reverse ++ .ref b :: rest) (hW : (rest.map fun v => v.category).sum ≤ 8) (d : decode cc pc = .ok (.invokespecial idx, 3)) (hf : k + mc ≤ (gR G).cells ∧ n + ms ≤ (gR G).slots) (kk : ∀ (u : S) (ra : Nat), post u → GH G (WR u ra) L (k + mc) (n + ms) (pc + 3) (.ref ra :: rest)) : GH G Wp L k n pc st0 := by
  intro H locs ls hl hw hS
  exact va_callr (va_runSU (As := As) (rest := rest) (C.K.1 12 _ rfl).2 C.fix hM cw ⟨PcH.blind, hrecv H hw, fun U hU hW => PcH.at C hw hS hU hW⟩ rfl rfl hl.1 hst0 (lv_room hW) d hf) hS (fun q _ h => h) (fun q h => h) (fun u ra t H1 locs1 ht hvm hp hB hz hk hS1 => kk u ra hp H1 locs1 ls hl (by rw [← ht]; exact hB) hS1)
end
def QiP (A : Nat → Prop) (Wp : Heap → Prop) (pst : Int32 → Prop) : Array Value → State → Outcome → State → Prop := va_Qi (fun r (_ : Unit) => pst r) (fun _ t => Wp t.heap) A
def QvP (A : Nat → Prop) (Wp : Heap → Prop) : Array Value → State → Outcome → State → Prop := va_Qv (fun (_ : Unit) => True) (fun _ t => Wp t.heap) A
abbrev WTd (D : va_G) (cy : Nat → ClassId) (A : Nat → Prop) (ws : va_W) (p0 p1 a b n cap : Nat) (f : Nat → Int32) : Heap → Prop := fun H => va_P D clT (wT (cy 3) ws p0 p1 a b n cap f) H ∧ va_D A (wT (cy 3) ws p0 p1 a b n cap f)
section
variable {G : MC} {cc : ByteArray} {own : String} {Wp : Heap → Prop} {L : List (Nat × Value)} {k n pc mc ms : Nat} {y : MethodName} {bytes : ByteArray} {maxL idx b : Nat} {ret : Option FieldType} {rm : Room} {As rest st0 : List Value}
theorem g_iretP {pst : Int32 → Prop} {v : Int32} (C : Cx G cc own) (hr : (gme G).sig.returnType = some .int) (hQ : gQ G = MQ (gbe G) (QiP (gA G) Wp pst) (gas G) (gs G) mc ms (gA G)) (hk : k ≤ mc) (hn : n ≤ ms) (d : decode cc pc = .ok (.ireturn, 1)) (hp : pst v) : GH G Wp L k n pc [.int v] := g_iret (S := Unit) (WQ := fun _ => Wp) (post := fun r _ => pst r) () C hr hQ hk hn d hp (fun _ h => h)
theorem g_zretP {pst : Int32 → Prop} {v : Int32} {ty : FieldType} (C : Cx G cc own) (hr : (gme G).sig.returnType = some ty) (hv : narrow ty (.int v) = .int v) (hQ : gQ G = MQ (gbe G) (QiP (gA G) Wp pst) (gas G) (gs G) mc ms (gA G)) (hk : k ≤ mc) (hn : n ≤ ms) (d : decode cc pc = .ok (.ireturn, 1)) (hp : pst v) : GH G Wp L k n pc [.int v] := g_zret (S := Unit) (WQ := fun _ => Wp) (post := fun r _ => pst r) () C hr hv hQ hk hn d hp (fun _ h => h)
theorem g_vretP (C : Cx G cc own) (hr : (gme G).sig.returnType = none) (hQ : gQ G = MQ (gbe G) (QvP (gA G) Wp) (gas G) (gs G) mc ms (gA G)) (hk : k ≤ mc) (hn : n ≤ ms) (d : decode cc pc = .ok (.return_, 1)) : GH G Wp L k n pc [] := g_vret (S := Unit) (WQ := fun _ => Wp) (post := fun _ => True) () C hr hQ hk hn d trivial (fun _ h => h)
theorem g_callSiP {pst : Int32 → Prop} (C : Cx G cc own) (hM : Met (gl G) y (wsA y bytes maxL ret) rm (PcH (gD G) (gcy G) (gA G) (gsa G) Wp As) (QiP (gA G) Wp pst) mc ms (gA G)) (hl : Cond.methodLink own idx y ∈ lw_all) (hst : Cond.static y ∈ lw_all) (hini : Cond.initialized y.cls ∈ lw_all) (hco : Cond.code y bytes maxL ret ∈ lw_all) (hst0 : st0 = As.reverse ++ rest) (hd : y.cls ≠ "java/lang/invoke/MethodHandle" ∧ y.cls ≠ "java/lang/invoke/VarHandle" ∧ (parseMethodDescriptor y.desc).map (fun d => d.parameters.length) = some As.length) (hrm : rm.cells = mc ∧ rm.slots = ms) (hR : rm.frames + 1 ≤ (gR G).frames ∧ 8 + (maxL + 11) + rm.locals ≤ (gR G).locals) (hW : (rest.map fun v => v.category).sum ≤ 8) (d : decode cc pc = .ok (.invokestatic idx, 3)) (hf : k + mc ≤ (gR G).cells ∧ n + ms ≤ (gR G).slots) (kk : ∀ r, pst r → GH G Wp L (k + mc) (n + ms) (pc + 3) (.int r :: rest)) : GH G Wp L k n pc st0 := g_callSi (S := Unit) (WQ := fun _ => Wp) (post := fun r _ => pst r) C hM hl hst hini hco hd hrm hR hst0 hW d hf (fun r _ h => kk r h)
theorem g_callSvP (C : Cx G cc own) (hM : Met (gl G) y (wsA y bytes maxL ret) rm (PcH (gD G) (gcy G) (gA G) (gsa G) Wp As) (QvP (gA G) Wp) mc ms (gA G)) (hl : Cond.methodLink own idx y ∈ lw_all) (hst : Cond.static y ∈ lw_all) (hini : Cond.initialized y.cls ∈ lw_all) (hco : Cond.code y bytes maxL ret ∈ lw_all) (hst0 : st0 = As.reverse ++ rest) (hd : y.cls ≠ "java/lang/invoke/MethodHandle" ∧ y.cls ≠ "java/lang/invoke/VarHandle" ∧ (parseMethodDescriptor y.desc).map (fun d => d.parameters.length) = some As.length) (hrm : rm.cells = mc ∧ rm.slots = ms) (hR : rm.frames + 1 ≤ (gR G).frames ∧ 8 + (maxL + 11) + rm.locals ≤ (gR G).locals) (hW : (rest.map fun v => v.category).sum ≤ 8) (d : decode cc pc = .ok (.invokestatic idx, 3)) (hf : k + mc ≤ (gR G).cells ∧ n + ms ≤ (gR G).slots) (kk : GH G Wp L (k + mc) (n + ms) (pc + 3) rest) : GH G Wp L k n pc st0 := g_callSv (S := Unit) (WQ := fun _ => Wp) (post := fun _ => True) C hM hl hst hini hco hd hrm hR hst0 hW d hf (fun _ _ => kk)
theorem g_callUiP {pst : Int32 → Prop} (C : Cx G cc own) (hM : Met (gl G) y (wsA y bytes maxL ret) rm (PcH (gD G) (gcy G) (gA G) (gsa G) Wp (.ref b :: As)) (QiP (gA G) Wp pst) mc ms (gA G)) (cw : va_CU (gR G) (gs G) (gas G) own RJ4 y.cls idx y y bytes maxL ret (wsA y bytes maxL ret) rm mc ms As.length) (hrecv : ∀ H, Wp H → ∃ cellB : Cell, H[b]? = some cellB ∧ cellB.vm.isStatics = false ∧ (gs G).vm.findClass RJ4 = some cellB.cls) (hst0 : st0 = As.reverse ++ .ref b :: rest) (hW : (rest.map fun v => v.category).sum ≤ 8) (d : decode cc pc = .ok (.invokevirtual idx, 3)) (hf : k + mc ≤ (gR G).cells ∧ n + ms ≤ (gR G).slots) (kk : ∀ r, pst r → GH G Wp L (k + mc) (n + ms) (pc + 3) (.int r :: rest)) : GH G Wp L k n pc st0 := g_callUi (S := Unit) (WQ := fun _ => Wp) (post := fun r _ => pst r) C hM cw hrecv hst0 hW d hf (fun r _ h => kk r h)
theorem g_callSUiP {pst : Int32 → Prop} (C : Cx G cc RJ4) (hM : Met (gl G) y (wsA y bytes maxL ret) rm (PcH (gD G) (gcy G) (gA G) (gsa G) Wp (.ref b :: As)) (QiP (gA G) Wp pst) mc ms (gA G)) (cw : va_CS (gR G) (gs G) (gas G) RJ4 idx y bytes maxL ret (wsA y bytes maxL ret) rm mc ms As.length) (hrecv : ∀ H, Wp H → ∃ cellB : Cell, H[b]? = some cellB ∧ cellB.vm.isStatics = false ∧ (gs G).vm.findClass RJ4 = some cellB.cls) (hst0 : st0 = As.reverse ++ .ref b :: rest) (hW : (rest.map fun v => v.category).sum ≤ 8) (d : decode cc pc = .ok (.invokespecial idx, 3)) (hf : k + mc ≤ (gR G).cells ∧ n + ms ≤ (gR G).slots) (kk : ∀ r, pst r → GH G Wp L (k + mc) (n + ms) (pc + 3) (.int r :: rest)) : GH G Wp L k n pc st0 := g_callSUi (S := Unit) (WQ := fun _ => Wp) (post := fun r _ => pst r) C hM cw hrecv hst0 hW d hf (fun r _ h => kk r h)
theorem gB_alen {w : va_W} {q0 b cap : Nat} {f : Nat → Int32} {stk : List Value} (C : Cx G cc own) (he : w[q0]? = some (tRow (gcy G 3) b cap f)) (d : decode cc pc = .ok (.arraylength, 1)) (kk : GH G (WB G w) L k n (pc + 1) (.int (nI cap) :: stk)) : GH G (WB G w) L k n pc (.ref b :: stk) := fun H locs ls hl hw hS => va_alen C.x C.b C.K hw.1 q0 3 he rfl rfl d (kk H locs ls hl hw hS)
theorem gB_newb {w : va_W} {m : Nat} {stk : List Value} (C : Cx G cc own) (harr : Cond.arrayClass .byte ∈ lw_all) (hm : m < 2 ^ 28) (hf : k + 1 ≤ (gR G).cells ∧ n + m ≤ (gR G).slots) (d : decode cc pc = .ok (.newarray .byte, 2)) (kk : ∀ q : Nat, GH G (WB G (w ++ [tRow (gcy G 3) q m (fun _ => 0)])) L (k + 1) (n + m) (pc + 2) (.ref q :: stk)) : GH G (WB G w) L k n pc (.int (nI m) :: stk) := by
  intro H locs ls hl hw hS
  refine va_newa (atype := .byte) C.x C.b (C.ts _ harr) rfl C.K hw.1 hw.2 hS C.new (a0 := (m, .inl (fun _ => 0))) (fun cA => rfl) (nI_pos (by omega)) (nI_clamp (by omega)) (by show m * 1 ≤ _; omega) hf.1 hf.2 d (fun q cA H1 hK hP hD hS1 => ?_)
  have e1 := (hK.2 4 (cA, .byte) rfl).2
  have e2 := (C.K.2 3 (gcy G 3, .byte) rfl).2
  have e : cA = gcy G 3 := Option.some.inj (e1.symm.trans e2)
  subst e
  exact kk q H1 locs ls hl ⟨hP, hD⟩ hS1
theorem gB_copy {w : va_W} {q0 q1 a0 a1 n0 n1 : Nat} {f g : Nat → Int32} (C : Cx G cc own) (he0 : w[q0]? = some (tRow (gcy G 3) a0 n0 f)) (he1 : w[q1]? = some (tRow (gcy G 3) a1 n1 g)) (hn : n0 ≤ n1) (hn1 : n0 < 2 ^ 31) (hfit : sb_Fit f) (hlk : Cond.methodLink own idx arraycopyName ∈ lw_all) (hna : Cond.native arraycopyName ∈ lw_all) (hst : Cond.static arraycopyName ∈ lw_all) (hini : Cond.initialized "java/lang/System" ∈ lw_all) (hR : 1 ≤ (gR G).frames ∧ (rest.map fun v => v.category).sum + 18 ≤ (gR G).locals) (d : decode cc pc = .ok (.invokestatic idx, 3)) (kk : GH G (WB G (w.set q1 (tRow (gcy G 3) a1 n1 (va_cpy f g 0 0 n0)))) L k n (pc + 3) rest) : GH G (WB G w) L k n pc (.int (nI n0) :: .int 0 :: .ref a1 :: .int 0 :: .ref a0 :: rest) := by
  intro H locs ls hl hw hS
  have ec : (nI n0).toNatClampNeg = n0 := nI_clamp hn1
  have e0 : (0 : Int32).toNatClampNeg = 0 := rfl
  refine va_copyi (ty := .byte) C.x C.b (C.ml.trans hl.1.symm) C.o (C.ts _ hlk) (C.ts _ hna) (C.ts _ hst) (C.ts _ hini) C.K hw.1 hw.2 hS q0 q1 3 3 he0 he1 rfl rfl rfl (by decide) (by decide) (nI_pos hn1) (by rw [ec, e0]; omega) (by rw [ec, e0]; omega) (fun i _ => hfit _) hR.1 (by show (rest.map fun v => v.category).sum + 18 ≤ _; exact hR.2) d (fun H1 locs1 hP hD hS1 => ?_)
  rw [ec] at hP hD
  exact kk H1 locs1 ls hl ⟨hP, hD⟩ hS1
theorem g_aretR {S : Type} {post : S → Prop} {WR : S → Nat → Heap → Prop} {q : Nat} {rt : FieldType} (u : S) (C : Cx G cc own) (hr : (gme G).sig.returnType = some rt) (hrt : (∃ n, rt = .object n) ∨ ∃ t, rt = .array t) (hQ : gQ G = MQ (gbe G) (va_Qr post (fun u a t => WR u a t.heap) (gA G)) (gas G) (gs G) mc ms (gA G)) (hk : k ≤ mc) (hn : n ≤ ms) (d : decode cc pc = .ok (.areturn, 1)) (hp : post u) (hu : ∀ H, Wp H → WR u q H) : GH G Wp L k n pc [.ref q] := by
  intro H locs ls hl hw hS
  rw [hQ]
  refine W.widen hk hn ?_
  exact W.aret C.x C.b hr hrt (Or.inr ⟨q, rfl⟩) (fun t ht hW => ⟨⟨u, q, rfl, hp, show WR u q t.heap by rw [ht]; exact hu H hw⟩, hS.F ht⟩) hS.2.2 d C.lk
theorem g_callSrR {S : Type} {post : S → Prop} {WR : S → Nat → Heap → Prop} (C : Cx G cc own) (hM : Met (gl G) y (wsA y bytes maxL ret) rm (PcH (gD G) (gcy G) (gA G) (gsa G) Wp As) (va_Qr post (fun u q t => WR u q t.heap) (gA G)) mc ms (gA G)) (hlk : Cond.methodLink own idx y ∈ lw_all) (hst : Cond.static y ∈ lw_all) (hini : Cond.initialized y.cls ∈ lw_all) (hco : Cond.code y bytes maxL ret ∈ lw_all) (hd : y.cls ≠ "java/lang/invoke/MethodHandle" ∧ y.cls ≠ "java/lang/invoke/VarHandle" ∧ (parseMethodDescriptor y.desc).map (fun d => d.parameters.length) = some As.length) (hrm : rm.cells = mc ∧ rm.slots = ms) (hR : rm.frames + 1 ≤ (gR G).frames ∧ 8 + (maxL + 11) + rm.locals ≤ (gR G).locals) (hst0 : st0 = As.reverse ++ rest) (hW : (rest.map fun v => v.category).sum ≤ 8) (d : decode cc pc = .ok (.invokestatic idx, 3)) (hf : k + mc ≤ (gR G).cells ∧ n + ms ≤ (gR G).slots) (kk : ∀ (u : S) (q : Nat), post u → GH G (WR u q) L (k + mc) (n + ms) (pc + 3) (.ref q :: rest)) : GH G Wp L k n pc st0 := by
  intro H locs ls hl hw hS
  exact va_callr (va_runS (As := As) (rest := rest) C.fix hM (va_cwS As.length C.ts (goodS hlk hst hini (goodA hco)) rfl hrm.1 hrm.2 hd hR) ⟨PcH.blind, fun U hU hW => PcH.at C hw hS hU hW⟩ rfl rfl hl.1 hst0 (lv_room hW) d hf) hS (fun q _ h => h) (fun q h => h) (fun u q t H1 locs1 ht hvm hp hB hz hk hS1 => kk u q hp H1 locs1 ls hl (by rw [← ht]; exact hB) hS1)
theorem pT_grow {ws : va_W} {p0 p1 a b q nn cap cap' : Nat} {f f' : Nat → Int32} {stk : List Value} (C : Cx G cc own) (hp : okP ws p0 p1) (hk : Cond.fieldLink own idx RA "value" "[B" ∈ lw_all) (d : decode cc pc = .ok (.putfield idx, 3)) (kk : GH G (WTx G ws p0 p1 a q nn cap' f') L k n (pc + 3) stk) : GH G (WB G (wT (gcy G 3) ws p0 p1 a b nn cap f ++ [tRow (gcy G 3) q cap' f'])) L k n pc (.ref q :: .ref a :: stk) := by
  intro H locs ls hl hw hS
  have hl0 : (wT (gcy G 3) ws p0 p1 a b nn cap f).length = ws.length := by unfold wT; rw [List.length_set, List.length_set]
  have hl1 : (wT (gcy G 3) ws p0 p1 a q nn cap' f').length = ws.length := by unfold wT; rw [List.length_set, List.length_set]
  have h0 : (wT (gcy G 3) ws p0 p1 a b nn cap f ++ [tRow (gcy G 3) q cap' f'])[p0]? = some (tCell a b nn) := by rw [List.getElem?_append_left (by rw [hl0]; exact hp.1)]; exact wT_0 hp
  refine va_put C.x C.b C.ts inT_J4 tyJ4 tyJ4_ok nmJ4 C.o C.K hw.1 hw.2 hS p0 h0 (rfl : clT[12]? = _) 0 (by decide) (C.ts _ hk) (fun _ h => h) rfl (ty := .array .byte) (by decide +kernel) rfl rfl (Nat.le_of_ble_eq_true rfl) d (fun H1 locs1 hP hD hS1 => ?_)
  rw [show (a, Sum.inr (12, [Value.ref b, Value.int 0, Value.int 0, Value.int (nI nn)].set 0 (Value.ref q))) = tCell a q nn from rfl] at hP hD
  refine kk H1 locs1 ls hl ⟨hP.by _ (wT_grow hp), hD.by _ (wT_grow hp) (fun i j hi hj e => ?_)⟩ hS1
  rw [hl1] at hi hj
  by_cases h1 : i = p1 <;> by_cases h2 : j = p1
  · omega
  · rw [if_pos h1, if_neg h2] at e; omega
  · rw [if_neg h1, if_pos h2] at e; omega
  · rw [if_neg h1, if_neg h2] at e; exact e
/-- a method over any world -/
theorem met_ofP {l : Launch} {y : MethodName} {cc : ByteArray} {maxL : Nat} {ret : Option FieldType} {rm : Room} {Qc : Array Value → State → Outcome → State → Prop} {mc ms : Nat} {D : va_G} {cy : Nat → ClassId} {A : Nat → Prop} {sad : Nat → Nat} {Wp : Heap → Prop} {av : List Value} (ad : Nat → Nat) (L0 : List (Nat × Value)) (hy : plainName y.cls = true) (hlen : (lg_sl av).length ≤ maxL) (hL0 : lv_args 0 av = L0)
    (body : ∀ G : MC, Cx G cc y.cls → gl G = l → gR G = rm → gL G = maxL → gD G = D → gcy G = cy → gA G = A → gad G = ad → gsa G = sad → (gme G).sig.returnType = ret → gQ G = MQ (gbe G) Qc (gas G) (gs G) mc ms (gA G) → GH G Wp L0 0 0 0 []) : Met l y (wsA y cc maxL ret) rm (PcH D cy A sad Wp av) Qc mc ms A := by
  subst hL0
  exact met_of ad hy hlen (fun G C h1 h2 h3 h4 h5 h6 h7 h8 h9 _ _ h10 => body G C h1 h2 h3 h4 h5 h6 h7 h8 h9 h10)
end
