/-! texts of the JDK, over a list of cells: toString -/
theorem set_id {α : Type} {w : List α} {p : Nat} {x : α} (h : w[p]? = some x) : w.set p x = w := by
  apply List.ext_getElem?
  intro j
  by_cases e : p = j
  · subst e
    rw [List.getElem?_set_self (List.getElem?_eq_some_iff.mp h).1, h]
  · rw [List.getElem?_set_ne e]
theorem wT_id {cb : ClassId} {w : va_W} {p0 p1 a b n cap : Nat} {f : Nat → Int32} (h0 : w[p0]? = some (tCell a b n)) (h1 : w[p1]? = some (tRow cb b cap f)) : wT cb w p0 p1 a b n cap f = w := by
  unfold wT
  rw [set_id h0, set_id h1]
theorem okP_of {cb : ClassId} {w : va_W} {p0 p1 a b n cap : Nat} {f : Nat → Int32} (h0 : w[p0]? = some (tCell a b n)) (h1 : w[p1]? = some (tRow cb b cap f)) : okP w p0 p1 := ⟨(List.getElem?_eq_some_iff.mp h0).1, (List.getElem?_eq_some_iff.mp h1).1, fun e => by
  subst e
  have h := h0.symm.trans h1
  simp [tCell, tRow] at h⟩
theorem app_at {α : Type} {w : List α} {p : Nat} {x : α} (l : List α) (h : w[p]? = some x) : (w ++ l)[p]? = some x := by
  rw [List.getElem?_append_left (List.getElem?_eq_some_iff.mp h).1]
  exact h
theorem app_end {α : Type} (w : List α) (x : α) : (w ++ [x])[w.length]? = some x := by
  rw [List.getElem?_append_right (Nat.le_refl _), Nat.sub_self]
  rfl
theorem app_set {α : Type} (w : List α) (x y : α) (l : List α) : (w ++ x :: l).set w.length y = w ++ y :: l := by
  rw [List.set_append_right _ _ (Nat.le_refl _), Nat.sub_self]
  rfl
theorem app_setL {α : Type} {w : List α} {p : Nat} {x : α} (h : w[p]? = some x) (y : α) (l : List α) : (w ++ l).set p y = w.set p y ++ l := List.set_append_left _ _ (List.getElem?_eq_some_iff.mp h).1
section
variable {G : MC} {cc : ByteArray} {own : String} {w : va_W} {Wp : Heap → Prop} {L : List (Nat × Value)} {k n pc : Nat} {stk : List Value}
theorem gW_and {p : Prop} (kk : p → GH G Wp L k n pc stk) : GH G (fun H => p ∧ Wp H) L k n pc stk := fun H locs ls hl hw hS => kk hw.1 H locs ls hl hw.2 hS
theorem gW_null (C : Cx G cc own) (d : decode cc pc = .ok (.aconst_null, 1)) (kk : GH G Wp L k n (pc + 1) (.null :: stk)) : GH G Wp L k n pc stk := fun H locs ls hl hw hS => lv_null C.x C.b d (kk H locs ls hl hw hS)
theorem gW_get (C : Cx G cc own) {ref Cn : String} {Tf : u_T} {N ci idx a : Nat} {fs : List Value} {v : Value} (hin : ∀ w ∈ u_ws Cn Tf N, w ∈ lw_all) (q0 : Nat) (he : w[q0]? = some (a, .inr (ci, fs))) (hc : clT[ci]? = some (Cn, Tf, N)) (j : Nat) (hj : j < N) (hk : Cond.fieldLink own idx ref (Tf j).2.1 (Tf j).2.2.1 ∈ lw_all) (hsame : ∀ x, (gs G).fieldFound? (Tf j).1 (Tf j).2.1 (Tf j).2.2.1 = some x → (gs G).fieldFound? ref (Tf j).2.1 (Tf j).2.2.1 = some x) (hv : fs[j]? = some v) (d : decode cc pc = .ok (.getfield idx, 3)) (kk : GH G (WB G w) L k n (pc + 3) (v :: stk)) : GH G (WB G w) L k n pc (.ref a :: stk) := fun H locs ls hl hw hS => va_get C.x C.b C.ts hin C.o C.K hw.1 q0 he hc j hj (C.ts _ hk) hsame hv d (kk H locs ls hl hw hS)
theorem gW_putF (C : Cx G cc own) {ref cls : String} {T : u_T} {N ci idx a : Nat} {fs : List Value} {v : Value} (hin : ∀ w ∈ u_ws cls T N, w ∈ lw_all) (ty0 : Nat → FieldType) (hty : ∀ k, k < N → parseFieldDescriptor (T k).2.2.1 = some (ty0 k)) (hnm : ∀ a, a < N → ∀ b, b < N → a ≠ b → (T a).2.1 ≠ (T b).2.1) (p : Nat) (he : w[p]? = some (a, .inr (ci, fs))) (hc : clT[ci]? = some (cls, T, N)) (kf : Nat) (hk : kf < N) (hlink : Cond.fieldLink own idx ref (T kf).2.1 (T kf).2.2.1 ∈ lw_all) (hsame : ∀ x, (gs G).fieldFound? (T kf).1 (T kf).2.1 (T kf).2.2.1 = some x → (gs G).fieldFound? ref (T kf).2.1 (T kf).2.2.1 = some x) (hfin : (T kf).2.2.2 = true) (hin2 : (gme G).name = "<init>") (hdecl : (T kf).1 = own) {ty : FieldType} (hd : parseFieldDescriptor (T kf).2.2.1 = some ty) (hn : narrow ty v = v) (hfit : fits ty v = true) (hl : kf < fs.length) (d : decode cc pc = .ok (.putfield idx, 3)) (w' : va_W) (hw' : w.set p (a, .inr (ci, fs.set kf v)) = w') (kk : GH G (WB G w') L k n (pc + 3) stk) : GH G (WB G w) L k n pc (v :: .ref a :: stk) := by
  intro H locs ls hls hw hS
  refine va_putF C.x C.b C.ts hin ty0 hty hnm C.o C.K hw.1 hw.2 hS p he hc kf hk (C.ts _ hlink) hsame hfin hin2 hdecl hd hn hfit hl d (fun H1 locs1 hP hD hS1 => ?_)
  rw [hw'] at hP hD
  exact kk H1 locs1 ls hls ⟨hP, hD⟩ hS1
theorem gW_new (C : Cx G cc own) {ci N idx : Nat} {cls : String} {T : u_T} (fs : List Value) (hin : ∀ w ∈ u_ws cls T N, w ∈ lw_all) (ty : Nat → FieldType) (hty : ∀ k, k < N → parseFieldDescriptor (T k).2.2.1 = some (ty k)) (hcl : Cond.classLink own idx cls ∈ lw_all) (hinst : Cond.instantiable cls N ∈ lw_all) (hini : Cond.initialized cls ∈ lw_all) (hc : clT[ci]? = some (cls, T, N)) (hfs : ∀ j, j < N → defaultValue (ty j) = vp_V fs j) (hf : k + 1 ≤ (gR G).cells ∧ n + N ≤ (gR G).slots) (d : decode cc pc = .ok (.new idx, 3)) (kk : ∀ q : Nat, GH G (WB G (w ++ [(q, .inr (ci, fs))])) L (k + 1) (n + N) (pc + 3) (.ref q :: stk)) : GH G (WB G w) L k n pc stk := by
  intro H locs ls hl hw hS
  exact va_new C.x C.b C.ts hin ty hty C.o (C.ts _ hcl) (C.ts _ hinst) (C.ts _ hini) C.K hw.1 hw.2 hS C.new hc hfs hf.1 hf.2 d (fun q H1 hP hD hS1 => kk q H1 locs ls hl ⟨hP, hD⟩ hS1)
theorem gW_copy {idx q0 q1 a0 a1 n0 n1 m : Nat} {f g : Nat → Int32} (C : Cx G cc own) (he0 : w[q0]? = some (tRow (gcy G 3) a0 n0 f)) (he1 : w[q1]? = some (tRow (gcy G 3) a1 n1 g)) (hm0 : m ≤ n0) (hm1 : m ≤ n1) (hm : m < 2 ^ 31) (hfit : sb_Fit f) (hlk : Cond.methodLink own idx arraycopyName ∈ lw_all) (hna : Cond.native arraycopyName ∈ lw_all) (hst : Cond.static arraycopyName ∈ lw_all) (hini : Cond.initialized "java/lang/System" ∈ lw_all) (hR : 1 ≤ (gR G).frames ∧ (stk.map fun v => v.category).sum + 18 ≤ (gR G).locals) (d : decode cc pc = .ok (.invokestatic idx, 3)) (w' : va_W) (hw' : w.set q1 (tRow (gcy G 3) a1 n1 (va_cpy f g 0 0 m)) = w') (kk : GH G (WB G w') L k n (pc + 3) stk) : GH G (WB G w) L k n pc (.int (nI m) :: .int 0 :: .ref a1 :: .int 0 :: .ref a0 :: stk) := by
  intro H locs ls hl hw hS
  have ec : (nI m).toNatClampNeg = m := nI_clamp hm
  have e0 : (0 : Int32).toNatClampNeg = 0 := rfl
  refine va_copyi (ty := .byte) C.x C.b (C.ml.trans hl.1.symm) C.o (C.ts _ hlk) (C.ts _ hna) (C.ts _ hst) (C.ts _ hini) C.K hw.1 hw.2 hS q0 q1 3 3 he0 he1 rfl rfl rfl (by decide) (by decide) (nI_pos hm) (by rw [ec, e0]; omega) (by rw [ec, e0]; omega) (fun i _ => hfit _) hR.1 (by show (stk.map fun v => v.category).sum + 18 ≤ _; exact hR.2) d (fun H1 locs1 hP hD hS1 => ?_)
  rw [ec, e0] at hP hD
  have e : w.set q1 (a1, Sum.inl (gcy G 3, n1, Sum.inl (va_cpy f g 0 0 m))) = w' := hw'
  rw [e] at hP hD
  exact kk H1 locs1 ls hl ⟨hP, hD⟩ hS1
theorem gW_clone (C : Cx G cc own) {b cap q0 idx : Nat} {f : Nat → Int32} (he : w[q0]? = some (tRow (gcy G 3) b cap f)) (hfit : sb_Fit f) (hlk : Cond.methodLink own idx ⟨"[B", "clone", "()Ljava/lang/Object;"⟩ ∈ lw_all) (hR : 1 ≤ (gR G).frames ∧ (stk.map fun v => v.category).sum + 14 ≤ (gR G).locals) (hf : k + 1 ≤ (gR G).cells ∧ n + cap ≤ (gR G).slots) (d : decode cc pc = .ok (.invokevirtual idx, 3)) (kk : ∀ q : Nat, GH G (WB G (w ++ [tRow (gcy G 3) q cap f])) L (k + 1) (n + cap) (pc + 3) (.ref q :: stk)) : GH G (WB G w) L k n pc (.ref b :: stk) := by
  intro H locs ls hl hw hS
  exact va_clone C.x C.b (C.ml.trans hl.1.symm) C.o (C.ts _ hlk) (C.ts _ tw792) (C.ts _ tw793) (C.ts _ tw794) (C.ts _ tw795) (C.gl.2.2.2.2.1 ("[B", "java/lang/Cloneable") (by decide)) C.K hw.1 hw.2 hS C.new q0 3 he rfl (va_nm_byte ((C.K.2 3 _ rfl).2)) (fun i v hv => va_fit (fun j _ => hfit j) i v hv) hR.1 hR.2 hf.1 hf.2 d (fun q H1 hK hP hD hS1 => kk q H1 locs ls hl ⟨hP, hD⟩ hS1)
theorem gW_castA (C : Cx G cc own) {b cap q0 idx : Nat} {f : Nat → Int32} (he : w[q0]? = some (tRow (gcy G 3) b cap f)) (hk : Cond.classLink own idx "[B" ∈ lw_all) (d : decode cc pc = .ok (.checkcast idx, 3)) (kk : GH G (WB G w) L k n (pc + 3) (.ref b :: stk)) : GH G (WB G w) L k n pc (.ref b :: stk) := fun H locs ls hl hw hS => va_castA C.x C.b C.o (C.ts _ hk) hw.1 q0 he (va_nm_byte ((C.K.2 3 _ rfl).2)) d (kk H locs ls hl hw hS)
end
section
variable {G : MC} {cc : ByteArray} {own : String} {Wp : Heap → Prop} {L : List (Nat × Value)} {k n pc mc ms : Nat} {S : Type} {WQ : S → Heap → Prop} {WR : S → Nat → Heap → Prop} {y : MethodName} {bytes : ByteArray} {maxL idx b : Nat} {ret : Option FieldType} {rm : Room} {As rest st0 : List Value}
theorem gW_callUr {post : S → Prop} (C : Cx G cc own) (hM : Met (gl G) y (wsA y bytes maxL ret) rm (PcH (gD G) (gcy G) (gA G) (gsa G) Wp (.ref b :: As)) (va_Qr post (fun u q t => WR u q t.heap) (gA G)) mc ms (gA G)) {CC : String} (cw : va_CU (gR G) (gs G) (gas G) own CC y.cls idx y y bytes maxL ret (wsA y bytes maxL ret) rm mc ms As.length) (hrecv : ∀ H, Wp H → ∃ cellB : Cell, H[b]? = some cellB ∧ cellB.vm.isStatics = false ∧ (gs G).vm.findClass CC = some cellB.cls) (hst0 : st0 = As.reverse ++ .ref b :: rest) (hW : (rest.map fun v => v.category).sum ≤ 8) (d : decode cc pc = .ok (.invokevirtual idx, 3)) (hf : k + mc ≤ (gR G).cells ∧ n + ms ≤ (gR G).slots) (kk : ∀ (u : S) (q : Nat), post u → GH G (WR u q) L (k + mc) (n + ms) (pc + 3) (.ref q :: rest)) : GH G Wp L k n pc st0 := by
  intro H locs ls hl hw hS
  exact va_callr (va_runU (As := As) (rest := rest) C.fix hM cw ⟨PcH.blind, hrecv H hw, fun U hU hW => PcH.at C hw hS hU hW⟩ rfl rfl hl.1 hst0 (lv_room hW) d hf) hS (fun q _ h => h) (fun q h => h) (fun u q t H1 locs1 ht hvm hp hB hz hk hS1 => kk u q hp H1 locs1 ls hl (by rw [← ht]; exact hB) hS1)
theorem g_cwO (C : Cx G cc own) {CC : String} {x : MethodName} {b0 : ByteArray} {m0 : Nat} {r0 : Option FieldType} (hlk : Cond.methodLink own idx x ∈ lw_all) (hsm : Cond.sameMethod x.cls x.cls x.name x.desc ∈ lw_all) (hin0 : Cond.instanceMethod x ∈ lw_all) (hco0 : Cond.code x b0 m0 r0 ∈ lw_all) (hin : Cond.instanceMethod y ∈ lw_all) (hse : (Cond.selects CC x y).before (gas G) (gs G) = true) (hini : Cond.initialized y.cls ∈ lw_all) (hco : Cond.code y bytes maxL ret ∈ lw_all)
    (hd : x.cls ≠ "java/lang/invoke/MethodHandle" ∧ x.cls ≠ "java/lang/invoke/VarHandle" ∧ (parseMethodDescriptor x.desc).map (fun d => d.parameters.length) = some As.length) (hrm : rm.cells = mc ∧ rm.slots = ms) (hR : rm.frames + 1 ≤ (gR G).frames ∧ 8 + (maxL + 11) + rm.locals ≤ (gR G).locals) : va_CU (gR G) (gs G) (gas G) own CC x.cls idx x y bytes maxL ret (wsA y bytes maxL ret) rm mc ms As.length := by
  refine ⟨⟨hrm.1, hrm.2, hR.1, hR.2, pay_in C.ts (goodA hco), List.mem_cons_self⟩, C.ts _ hco, C.ts _ hini, ⟨hd.1, hd.2.1⟩, fun sig h => ?_, C.ts _ hlk, C.ts _ hsm, va_Decl.of (C.ts _ hin0) (C.ts _ hco0), hse, C.ts _ hin⟩
  have h2 := hd.2.2
  rw [h] at h2
  exact (Option.some.inj h2).symm
theorem gW_callOi {x : MethodName} {pst : Int32 → Prop} (C : Cx G cc own) (hM : Met (gl G) y (wsA y bytes maxL ret) rm (PcH (gD G) (gcy G) (gA G) (gsa G) Wp (.ref b :: As)) (QiP (gA G) Wp pst) mc ms (gA G)) {CC : String} (cw : va_CU (gR G) (gs G) (gas G) own CC x.cls idx x y bytes maxL ret (wsA y bytes maxL ret) rm mc ms As.length) (hrecv : ∀ H, Wp H → ∃ cellB : Cell, H[b]? = some cellB ∧ cellB.vm.isStatics = false ∧ (gs G).vm.findClass CC = some cellB.cls) (hst0 : st0 = As.reverse ++ .ref b :: rest) (hW : (rest.map fun v => v.category).sum ≤ 8) (d : decode cc pc = .ok (.invokevirtual idx, 3)) (hf : k + mc ≤ (gR G).cells ∧ n + ms ≤ (gR G).slots) (kk : ∀ r : Int32, pst r → GH G Wp L (k + mc) (n + ms) (pc + 3) (.int r :: rest)) : GH G Wp L k n pc st0 := by
  intro H locs ls hl hw hS
  exact va_calli (S := Unit) (va_runU (As := As) (rest := rest) C.fix hM cw ⟨PcH.blind, hrecv H hw, fun U hU hW => PcH.at C hw hS hU hW⟩ rfl rfl hl.1 hst0 (lv_room hW) d hf) hS (fun q _ h => h) (fun q h => h) (fun r u t H1 locs1 ht hvm hp hB hz hk hS1 => kk r hp H1 locs1 ls hl (by rw [← ht]; exact hB) hS1)
theorem gW_callVr {post : S → Prop} (C : Cx G cc own) (hM : Met (gl G) y (wsA y bytes maxL ret) rm (PcH (gD G) (gcy G) (gA G) (gsa G) Wp (.ref b :: As)) (va_Qr post (fun u q t => WR u q t.heap) (gA G)) mc ms (gA G)) (hlk : Cond.methodLink own idx y ∈ lw_all) (hin : Cond.instanceMethod y ∈ lw_all) (hse : Cond.selects y.cls y y ∈ lw_all) (hini : Cond.initialized y.cls ∈ lw_all) (hco : Cond.code y bytes maxL ret ∈ lw_all) (hrecv : ∀ H, Wp H → ∃ cellB : Cell, H[b]? = some cellB ∧ cellB.vm.isStatics = false ∧ (gs G).vm.findClass y.cls = some cellB.cls) (hd : y.cls ≠ "java/lang/invoke/MethodHandle" ∧ y.cls ≠ "java/lang/invoke/VarHandle" ∧ (parseMethodDescriptor y.desc).map (fun d => d.parameters.length) = some As.length) (hrm : rm.cells = mc ∧ rm.slots = ms) (hR : rm.frames + 1 ≤ (gR G).frames ∧ 8 + (maxL + 11) + rm.locals ≤ (gR G).locals) (hst0 : st0 = As.reverse ++ .ref b :: rest) (hW : (rest.map fun v => v.category).sum ≤ 8) (d : decode cc pc = .ok (.invokevirtual idx, 3)) (hf : k + mc ≤ (gR G).cells ∧ n + ms ≤ (gR G).slots) (kk : ∀ (u : S) (q : Nat), post u → GH G (WR u q) L (k + mc) (n + ms) (pc + 3) (.ref q :: rest)) : GH G Wp L k n pc st0 := by
  intro H locs ls hl hw hS
  exact va_callr (va_runV (As := As) (rest := rest) C.fix hM (cwV As.length C.ts (goodV hlk hin hse hini (goodA hco)) rfl hrm.1 hrm.2 ⟨rfl, hd⟩ hR) ⟨PcH.blind, hrecv H hw, fun U hU hW => PcH.at C hw hS hU hW⟩ rfl rfl hl.1 hst0 (lv_room hW) d hf) hS (fun q _ h => h) (fun q h => h) (fun u q t H1 locs1 ht hvm hp hB hz hk hS1 => kk u q hp H1 locs1 ls hl (by rw [← ht]; exact hB) hS1)
theorem gW_ctor {post : S → Prop} (C : Cx G cc own) (hM : Met (gl G) y (wsA y bytes maxL none) rm (PcH (gD G) (gcy G) (gA G) (gsa G) Wp (.ref b :: As)) (va_Qv post (fun u t => WQ u t.heap) (gA G)) mc ms (gA G)) (hlk : Cond.methodLink own idx y ∈ lw_all) (hin : Cond.instanceMethod y ∈ lw_all) (hnm : y.name = "<init>") (hini : Cond.initialized y.cls ∈ lw_all) (hco : Cond.code y bytes maxL none ∈ lw_all) (hd : y.cls ≠ "java/lang/invoke/MethodHandle" ∧ y.cls ≠ "java/lang/invoke/VarHandle" ∧ (parseMethodDescriptor y.desc).map (fun d => d.parameters.length) = some As.length) (hrm : rm.cells = mc ∧ rm.slots = ms) (hR : rm.frames + 1 ≤ (gR G).frames ∧ 8 + (maxL + 11) + rm.locals ≤ (gR G).locals) (hst0 : st0 = As.reverse ++ .ref b :: rest) (hW : (rest.map fun v => v.category).sum ≤ 8) (d : decode cc pc = .ok (.invokespecial idx, 3)) (hf : k + mc ≤ (gR G).cells ∧ n + ms ≤ (gR G).slots) (kk : ∀ u : S, post u → GH G (WQ u) L (k + mc) (n + ms) (pc + 3) rest) : GH G Wp L k n pc st0 := by
  intro H locs ls hl hw hS
  exact va_callv (va_runI (As := As) (rest := rest) C.fix hM (cwI As.length C.ts (goodA hco) rfl hrm.1 hrm.2 (C.ts _ hini) (C.ts _ hlk) (C.ts _ hin) hnm hd hR) ⟨PcH.blind, fun U hU hW => PcH.at C hw hS hU hW⟩ rfl rfl hl.1 hst0 (lv_room hW) d hf) hS (fun q _ h => h) (fun q h => h) (fun u t H1 locs1 ht hvm hp hB hz hk hS1 => kk u hp H1 locs1 ls hl (by rw [← ht]; exact hB) hS1)
end
theorem rvB {G : MC} {cc : ByteArray} {own : String} {w : va_W} {p0 a b n : Nat} (C : Cx G cc own) (h0 : w[p0]? = some (tCell a b n)) : ∀ H, WB G w H → ∃ cellB : Cell, H[a]? = some cellB ∧ cellB.vm.isStatics = false ∧ (gs G).vm.findClass RJ4 = some cellB.cls := fun H hw => va_recv (q := (RJ4, TJ4, 4)) C.K hw.1 rfl h0
/-- Arrays.checkLength -/
theorem c_J7_checkLength (l : Launch) (D : va_G) (cy : Nat → ClassId) (A : Nat → Prop) (sad : Nat → Nat) (Wp : Heap → Prop) (n : Nat) (hn : n < 2 ^ 31) : Met l yJ7_checkLength_df160 (wsA yJ7_checkLength_df160 cJ7_checkLength_df160 2 none) ({ frames := 0, cells := 0, slots := 0, locals := 0 }) (PcH D cy A sad Wp [.int 0, .int (nI n)]) (QvP A Wp) 0 0 A := by
  refine met_ofP (fun _ => 0) [(0, .int 0), (1, .int (nI n))] (by decide +kernel) (Nat.le_of_ble_eq_true rfl) rfl ?_
  intro G C hl hR hL hD hcy hA had hsa hr hQ
  subst hD hcy hA hsa hl
  refine g_iload_n C dJ7_checkLength_df160_0 1 rfl ?_
  refine g_iload_n C dJ7_checkLength_df160_1 0 rfl ?_
  refine g_icmp_ge C dJ7_checkLength_df160_2 (tgt := 37) (by decide) (fun c => ?_) (fun c => absurd (show nI 0 ≤ nI n from nI_le (Nat.zero_le _) hn) c)
  exact g_vretP C hr hQ (by decide) (by decide) dJ7_checkLength_df160_37
/-- Arrays.copyOfRangeByte, from the first -/
theorem c_J7_crb (l : Launch) (D : va_G) (cy : Nat → ClassId) (A : Nat → Prop) (sad : Nat → Nat) (w : va_W) (p1 b n cap : Nat) (f : Nat → Int32) (h1 : w[p1]? = some (tRow (cy 3) b cap f)) (hcap : cap < 2 ^ 28) (hn : n ≤ cap) (hf : sb_Fit f) : Met l yJ7_copyOfRangeByte_39247 (wsA yJ7_copyOfRangeByte_39247 cJ7_copyOfRangeByte_39247 5 (some (.array .byte))) ({ frames := 1, cells := 1, slots := n, locals := 21 }) (PcH D cy A sad (WBd D A w) [.ref b, .int 0, .int (nI n)]) (va_Qr (fun g : Nat → Int32 => ∀ j, j < n → g j = f j) (fun g q t => (WBd D A (w ++ [tRow (cy 3) q n g])) t.heap) A) 1 n A := by
  refine met_ofP (fun _ => 0) [(0, .ref b), (1, .int 0), (2, .int (nI n))] (by decide +kernel) (Nat.le_of_ble_eq_true rfl) rfl ?_
  intro G C hl hR hL hD hcy hA had hsa hr hQ
  subst hD hcy hA hsa hl
  refine g_iload_n C dJ7_copyOfRangeByte_39247_0 1 rfl ?_
  refine g_iload_n C dJ7_copyOfRangeByte_39247_1 2 rfl ?_
  refine g_callSvP C (c_J7_checkLength _ _ _ _ _ _ n (by omega)) tw1225 tw1226 tw28 tw1227 rfl ⟨by decide +kernel, by decide +kernel, rfl⟩ ⟨rfl, rfl⟩ (by rw [hR]; exact ⟨by show 0 + 1 ≤ 1; decide, by show 8 + (2 + 11) + 0 ≤ 21; decide⟩) (Nat.le_of_ble_eq_true rfl) dJ7_copyOfRangeByte_39247_2 (by rw [hR]; exact ⟨by show 0 + 0 ≤ 1; decide, by show 0 + 0 ≤ n; omega⟩) ?_
  refine g_iload_n C dJ7_copyOfRangeByte_39247_5 2 rfl ?_
  refine g_iload_n C dJ7_copyOfRangeByte_39247_6 1 rfl ?_
  refine g_isub C dJ7_copyOfRangeByte_39247_7 ?_
  refine g_topi (y := nI n) (Int32.sub_zero _) ?_
  refine g_istore_n C (L' := [(3, .int (nI n)), (0, .ref b), (1, .int 0), (2, .int (nI n))]) dJ7_copyOfRangeByte_39247_8 rfl (by rw [hL]; decide) ?_
  refine g_iload_n C dJ7_copyOfRangeByte_39247_9 0 rfl ?_
  refine gB_newb C tw310 (by omega) (by rw [hR]; exact ⟨by show 0 + 0 + 1 ≤ 1; decide, by show 0 + 0 + n ≤ n; omega⟩) dJ7_copyOfRangeByte_39247_10 (fun q => ?_)
  refine g_astore C (L' := [(4, .ref q), (3, .int (nI n)), (0, .ref b), (1, .int 0), (2, .int (nI n))]) dJ7_copyOfRangeByte_39247_12 rfl (by rw [hL]; decide) ?_
  refine g_aload_n C dJ7_copyOfRangeByte_39247_14 2 rfl ?_
  refine g_iload_n C dJ7_copyOfRangeByte_39247_15 3 rfl ?_
  refine g_aload C dJ7_copyOfRangeByte_39247_16 0 rfl ?_
  refine g_iconst C dJ7_copyOfRangeByte_39247_18 (v := 0) (by decide) ?_
  refine g_aload_n C dJ7_copyOfRangeByte_39247_19 2 rfl ?_
  refine gB_alen C (app_at _ h1) dJ7_copyOfRangeByte_39247_20 ?_
  refine g_iload_n C dJ7_copyOfRangeByte_39247_21 3 rfl ?_
  refine g_isub C dJ7_copyOfRangeByte_39247_22 ?_
  refine g_topi (y := nI cap) (Int32.sub_zero _) ?_
  refine g_iload_n C dJ7_copyOfRangeByte_39247_23 1 rfl ?_
  refine g_min C dJ7_copyOfRangeByte_39247_24 tw798 (Nat.le_of_ble_eq_true rfl) (by rw [hR]; exact ⟨Nat.le_refl _, Nat.le_refl _, by show 0 + 0 + 1 ≤ 1; decide, by show 0 + 0 + n ≤ n; omega⟩) ?_
  have em : tk_min (nI cap) (nI n) = nI n := by
    unfold tk_min
    split
    · rfl
    · rename_i h
      by_cases e : n = cap
      · rw [e]
      · exact absurd (nI_lt (by omega) (by omega)) h
  refine g_topi (y := nI n) em ?_
  refine gW_copy C (app_at _ h1) (app_end w _) hn (Nat.le_refl _) (by omega) hf tw799 tw801 tw800 tw29 (by rw [hR]; exact ⟨Nat.le_refl _, by show (0 : Nat) + 18 ≤ 21; omega⟩) dJ7_copyOfRangeByte_39247_27 _ (app_set w _ _ _) ?_
  refine g_aload C dJ7_copyOfRangeByte_39247_30 0 rfl ?_
  exact g_aretR (S := Nat → Int32) (post := fun g => ∀ j, j < n → g j = f j) (WR := fun g q => WB G (w ++ [tRow (gcy G 3) q n g])) _ C hr (Or.inr ⟨_, rfl⟩) hQ (by omega) (by omega) dJ7_copyOfRangeByte_39247_32 (fun j hj => sb_cpy0 hj) (fun H h => h)
/-- Arrays.copyOfRange, from the first -/
theorem c_J7_cr (l : Launch) (D : va_G) (cy : Nat → ClassId) (A : Nat → Prop) (sad : Nat → Nat) (w : va_W) (p1 b n cap : Nat) (f : Nat → Int32) (h1 : w[p1]? = some (tRow (cy 3) b cap f)) (hcap : cap < 2 ^ 28) (hn : n ≤ cap) (hf : sb_Fit f) : Met l yJ7_copyOfRange_39247 (wsA yJ7_copyOfRange_39247 cJ7_copyOfRange_39247 3 (some (.array .byte))) ({ frames := 2, cells := 1, slots := n, locals := 45 }) (PcH D cy A sad (WBd D A w) [.ref b, .int 0, .int (nI n)]) (va_Qr (fun g : Nat → Int32 => ∀ j, j < n → g j = f j) (fun g q t => (WBd D A (w ++ [tRow (cy 3) q n g])) t.heap) A) 1 n A := by
  refine met_ofP (fun _ => 0) [(0, .ref b), (1, .int 0), (2, .int (nI n))] (by decide +kernel) (Nat.le_of_ble_eq_true rfl) rfl ?_
  intro G C hl hR hL hD hcy hA had hsa hr hQ
  subst hD hcy hA hsa hl
  refine g_iload_n C dJ7_copyOfRange_39247_0 1 rfl ?_
  refine g_if_ne C dJ7_copyOfRange_39247_1 (tgt := 10) (by decide) (fun c => absurd rfl c) (fun _ => ?_)
  refine g_iload_n C dJ7_copyOfRange_39247_4 2 rfl ?_
  refine g_aload_n C dJ7_copyOfRange_39247_5 0 rfl ?_
  refine gB_alen C h1 dJ7_copyOfRange_39247_6 ?_
  refine g_icmp_eq C dJ7_copyOfRange_39247_7 (tgt := 17) (by decide) (fun c => ?_) (fun c => ?_)
  · have e : n = cap := (nI_eq (by omega) (by omega)).mp c
    subst e
    refine g_aload_n C dJ7_copyOfRange_39247_17 0 rfl ?_
    refine gW_clone C h1 hf tw791 (by rw [hR]; exact ⟨by show 1 ≤ 2; decide, by show (0 : Nat) + 14 ≤ 45; decide⟩) (by rw [hR]; exact ⟨by show 0 + 1 ≤ 1; decide, by show 0 + n ≤ n; omega⟩) dJ7_copyOfRange_39247_18 (fun q => ?_)
    refine gW_castA C (app_end w _) tw797 dJ7_copyOfRange_39247_21 ?_
    exact g_aretR (S := Nat → Int32) (post := fun g => ∀ j, j < n → g j = f j) (WR := fun g q => WB G (w ++ [tRow (gcy G 3) q n g])) f C hr (Or.inr ⟨_, rfl⟩) hQ (by omega) (by omega) dJ7_copyOfRange_39247_24 (fun j _ => rfl) (fun H h => h)
  · refine g_aload_n C dJ7_copyOfRange_39247_10 0 rfl ?_
    refine g_iload_n C dJ7_copyOfRange_39247_11 1 rfl ?_
    refine g_iload_n C dJ7_copyOfRange_39247_12 2 rfl ?_
    refine g_callSrR (S := Nat → Int32) (post := fun g => ∀ j, j < n → g j = f j) (WR := fun g q => WB G (w ++ [tRow (gcy G 3) q n g])) C (c_J7_crb _ _ _ _ _ w p1 b n cap f h1 hcap hn hf) tw1222 tw1223 tw28 tw1224 ⟨by decide +kernel, by decide +kernel, rfl⟩ ⟨rfl, rfl⟩ (by rw [hR]; exact ⟨by show 1 + 1 ≤ 2; decide, by show 8 + (5 + 11) + 21 ≤ 45; decide⟩) rfl (Nat.le_of_ble_eq_true rfl) dJ7_copyOfRange_39247_13 (by rw [hR]; exact ⟨by show 0 + 1 ≤ 1; decide, by show 0 + n ≤ n; omega⟩) (fun u q hu => ?_)
    exact g_aretR (S := Nat → Int32) (post := fun g => ∀ j, j < n → g j = f j) (WR := fun g q => WB G (w ++ [tRow (gcy G 3) q n g])) u C hr (Or.inr ⟨_, rfl⟩) hQ (by omega) (by omega) dJ7_copyOfRange_39247_16 hu (fun H h => h)
/-- AbstractStringBuilder.getValue -/
theorem c_J5_gv (l : Launch) (D : va_G) (cy : Nat → ClassId) (A : Nat → Prop) (sad : Nat → Nat) (w : va_W) (p0 a b n : Nat) (h0 : w[p0]? = some (tCell a b n)) : Met l yJ5_getValue_6d5f1 (wsA yJ5_getValue_6d5f1 cJ5_getValue_6d5f1 1 (some (.array .byte))) ({ frames := 0, cells := 0, slots := 0, locals := 0 }) (PcH D cy A sad (WBd D A w) [.ref a]) (va_Qr (fun _ : Unit => True) (fun _ q t => (fun H => q = b ∧ WBd D A w H) t.heap) A) 0 0 A := by
  refine met_ofP (fun _ => 0) [(0, .ref a)] (by decide +kernel) (Nat.le_of_ble_eq_true rfl) rfl ?_
  intro G C hl hR hL hD hcy hA had hsa hr hQ
  subst hD hcy hA hsa hl
  refine g_aload_n C dJ5_getValue_6d5f1_0 0 rfl ?_
  refine gW_get C inT_J4 p0 h0 (rfl : clT[12]? = _) 0 (by decide) tw297 (fun _ h => h) rfl dJ5_getValue_6d5f1_1 ?_
  exact g_aretR (S := Unit) (post := fun _ => True) (WR := fun _ q H => q = b ∧ WB G w H) () C hr (Or.inr ⟨_, rfl⟩) hQ (by omega) (by omega) dJ5_getValue_6d5f1_4 trivial (fun H h => ⟨rfl, h⟩)
theorem WTd_id {D : va_G} {cy : Nat → ClassId} {A : Nat → Prop} {w : va_W} {p0 p1 a b n cap : Nat} {f : Nat → Int32} (h0 : w[p0]? = some (tCell a b n)) (h1 : w[p1]? = some (tRow (cy 3) b cap f)) : WTd D cy A w p0 p1 a b n cap f = WBd D A w := by
  show (fun H => va_P D clT (wT (cy 3) w p0 p1 a b n cap f) H ∧ va_D A (wT (cy 3) w p0 p1 a b n cap f)) = fun H => va_P D clT w H ∧ va_D A w
  rw [wT_id h0 h1]
theorem c_lenL (l : Launch) (D : va_G) (cy : Nat → ClassId) (A : Nat → Prop) (sad : Nat → Nat) (w : va_W) (p0 p1 a b n cap : Nat) (f : Nat → Int32) (h0 : w[p0]? = some (tCell a b n)) (h1 : w[p1]? = some (tRow (cy 3) b cap f)) (hcap : cap < 2 ^ 28) (hn : n ≤ cap) : Met l yJ4_length_8abf5 (wsA yJ4_length_8abf5 cJ4_length_8abf5 1 (some .int)) ({ frames := 1, cells := 0, slots := 0, locals := 20 }) (PcH D cy A sad (WBd D A w) [.ref a]) (QiP A (WBd D A w) (fun r => r = nI n)) 0 0 A := by
  have h := c_J4_length_8abf5 l D cy A sad w p0 p1 a b n cap f (okP_of h0 h1) hcap hn
  rw [WTd_id h0 h1] at h
  exact h
theorem c_latL (l : Launch) (D : va_G) (cy : Nat → ClassId) (A : Nat → Prop) (sad : Nat → Nat) (w : va_W) (p0 p1 a b n cap : Nat) (f : Nat → Int32) (h0 : w[p0]? = some (tCell a b n)) (h1 : w[p1]? = some (tRow (cy 3) b cap f)) (hcap : cap < 2 ^ 28) (hn : n ≤ cap) : Met l yJ5_isLatin1_aae02 (wsA yJ5_isLatin1_aae02 cJ5_isLatin1_aae02 1 (some .boolean)) ({ frames := 0, cells := 0, slots := 0, locals := 0 }) (PcH D cy A sad (WBd D A w) [.ref a]) (QiP A (WBd D A w) (fun r => r = 1)) 0 0 A := by
  have h := c_J5_isLatin1_aae02 l D cy A sad w p0 p1 a b n cap f (okP_of h0 h1) hcap hn
  rw [WTd_id h0 h1] at h
  exact h
def sObj (s v : Nat) : Nat × va_E := (s, .inr (13, [.ref v, .int 0, .int 0, .int 0]))
/-- String(AbstractStringBuilder, Void) -/
theorem c_J0_init2 (l : Launch) (D : va_G) (cy : Nat → ClassId) (A : Nat → Prop) (sad : Nat → Nat) (w : va_W) (p0 p1 p2 a b s n cap : Nat) (f : Nat → Int32) (h0 : w[p0]? = some (tCell a b n)) (h1 : w[p1]? = some (tRow (cy 3) b cap f)) (h2 : w[p2]? = some (s, .inr (13, [.null, .int 0, .int 0, .int 0]))) (hcap : cap < 2 ^ 28) (hn : n ≤ cap) (hf : sb_Fit f) : Met l yJ0_init_db425 (wsA yJ0_init_db425 cJ0_init_db425 5 none) ({ frames := 3, cells := 1, slots := n, locals := 67 }) (PcH D cy A sad (WBd D A w) [.ref s, .ref a, .null]) (va_Qv (fun u : Nat × (Nat → Int32) => ∀ j, j < n → u.2 j = f j) (fun u t => WBd D A (w.set p2 (sObj s u.1) ++ [tRow (cy 3) u.1 n u.2]) t.heap) A) 1 n A := by
  refine met_of (fun _ => 0) (by decide +kernel) (Nat.le_of_ble_eq_true rfl) ?_
  intro G C hl hR hL hD hcy hA _ hsa hr _ hnm hQ
  subst hD hcy hA hsa hl
  show GH G (WB G w) [(0, .ref s), (1, .ref a), (2, .null)] 0 0 0 []
  refine g_aload_n C dJ0_init_db425_0 0 rfl ?_
  refine b_obj C tw1211 dJ0_init_db425_1 (by rw [hR]; exact ⟨by show 1 ≤ 3; decide, by show 20 ≤ 67; decide⟩) (Nat.le_of_ble_eq_true rfl) ?_
  refine g_aload_n C dJ0_init_db425_4 1 rfl ?_
  refine gW_callUr (S := Unit) (WR := fun _ q H => q = b ∧ WB G w H) (post := fun _ => True) C (c_J5_gv _ _ _ _ _ w p0 a b n h0) (g_cwU C (mc := 0) (ms := 0) tw1212 tw1214 tw1213 (C.ts _ tw1215) tw12 tw1216 ⟨by decide +kernel, by decide +kernel, rfl⟩ ⟨rfl, rfl⟩ (by rw [hR]; exact ⟨by show 0 + 1 ≤ 3; decide, by show 8 + (1 + 11) + 0 ≤ 67; decide⟩)) (rvB C h0) rfl (Nat.le_of_ble_eq_true rfl) dJ0_init_db425_5 (by rw [hR]; exact ⟨by show 0 + 0 ≤ 1; decide, by show 0 + 0 ≤ n; omega⟩) (fun _ q _ => ?_)
  refine gW_and (fun e => ?_)
  subst e
  refine g_astore_n C (L' := [(3, .ref q), (0, .ref s), (1, .ref a), (2, .null)]) dJ0_init_db425_8 rfl (by rw [hL]; decide) ?_
  refine g_aload_n C dJ0_init_db425_9 2 rfl ?_
  refine gW_callOi (pst := fun r => r = nI n) C (c_lenL _ _ _ _ _ w p0 p1 a q n cap f h0 h1 hcap hn) (g_cwO (x := yJ5_length_8abf5) C (mc := 0) (ms := 0) tw1217 tw1373 tw1097 tw1098 tw1093 (C.ts _ tw1375) tw13 tw1095 ⟨by decide +kernel, by decide +kernel, rfl⟩ ⟨rfl, rfl⟩ (by rw [hR]; exact ⟨by show 1 + 1 ≤ 3; decide, by show 8 + (1 + 11) + 20 ≤ 67; decide⟩)) (rvB C h0) rfl (Nat.le_of_ble_eq_true rfl) dJ0_init_db425_10 (by rw [hR]; exact ⟨by show 0 + 0 + 0 ≤ 1; decide, by show 0 + 0 + 0 ≤ n; omega⟩) (fun r hr1 => ?_)
  refine g_topi (y := nI n) hr1 ?_
  refine g_istore C (L' := [(4, .int (nI n)), (3, .ref q), (0, .ref s), (1, .ref a), (2, .null)]) dJ0_init_db425_13 rfl (by rw [hL]; decide) ?_
  refine g_aload_n C dJ0_init_db425_15 3 rfl ?_
  refine g_callUiP (pst := fun r => r = 1) C (c_latL _ _ _ _ _ w p0 p1 a q n cap f h0 h1 hcap hn) (g_cwU C (mc := 0) (ms := 0) tw1218 tw804 tw803 (C.ts _ tw805) tw12 tw806 ⟨by decide +kernel, by decide +kernel, rfl⟩ ⟨rfl, rfl⟩ (by rw [hR]; exact ⟨by show 0 + 1 ≤ 3; decide, by show 8 + (1 + 11) + 0 ≤ 67; decide⟩)) (rvB C h0) rfl (Nat.le_of_ble_eq_true rfl) dJ0_init_db425_16 (by rw [hR]; exact ⟨by show 0 + 0 + 0 + 0 ≤ 1; decide, by show 0 + 0 + 0 + 0 ≤ n; omega⟩) (fun r hr1 => ?_)
  refine g_topi (y := 1) hr1 ?_
  refine g_if_eq C dJ0_init_db425_19 (tgt := 41) (by decide) (fun q => absurd q (by decide)) (fun _ => ?_)
  refine g_aload_n C dJ0_init_db425_22 2 rfl ?_
  refine g_iconst C dJ0_init_db425_23 (v := 0) (by decide) ?_
  refine gW_putF C inT_J0 tyJ0 tyJ0_ok nmJ0 p2 h2 rfl 1 (by decide) tw1283 (fun _ h => h) rfl hnm rfl (ty := .byte) (by decide +kernel) (by decide) (by decide) (Nat.le_of_ble_eq_true rfl) dJ0_init_db425_24 w (set_id h2) ?_
  refine g_aload_n C dJ0_init_db425_27 2 rfl ?_
  refine g_aload_n C dJ0_init_db425_28 1 rfl ?_
  refine g_iconst C dJ0_init_db425_29 (v := 0) (by decide) ?_
  refine g_iload C dJ0_init_db425_30 0 rfl ?_
  refine g_callSrR (S := Nat → Int32) (post := fun g => ∀ j, j < n → g j = f j) (WR := fun g q => WB G (w ++ [tRow (gcy G 3) q n g])) C (c_J7_cr _ _ _ _ _ w p1 q n cap f h1 hcap hn hf) tw1219 tw1220 tw28 tw1221 ⟨by decide +kernel, by decide +kernel, rfl⟩ ⟨rfl, rfl⟩ (by rw [hR]; exact ⟨by show 2 + 1 ≤ 3; decide, by show 8 + (3 + 11) + 45 ≤ 67; decide⟩) rfl (Nat.le_of_ble_eq_true rfl) dJ0_init_db425_32 (by rw [hR]; exact ⟨by show 0 + 0 + 0 + 0 + 1 ≤ 1; decide, by show 0 + 0 + 0 + 0 + n ≤ n; omega⟩) (fun g v hg => ?_)
  refine gW_putF C inT_J0 tyJ0 tyJ0_ok nmJ0 p2 (app_at _ h2) rfl 0 (by decide) tw1282 (fun _ h => h) rfl hnm rfl (ty := .array .byte) (by decide +kernel) rfl rfl (Nat.le_of_ble_eq_true rfl) dJ0_init_db425_35 (w.set p2 (sObj s v) ++ [tRow (gcy G 3) v n g]) (app_setL h2 _ _) ?_
  refine g_goto C dJ0_init_db425_38 (tgt := 97) (by decide) ?_
  exact g_vret (S := Nat × (Nat → Int32)) (WQ := fun u => WB G (w.set p2 (sObj s u.1) ++ [tRow (gcy G 3) u.1 n u.2])) (post := fun u => ∀ j, j < n → u.2 j = f j) (v, g) C hr hQ (by omega) (by omega) dJ0_init_db425_97 hg (fun H h => h)
/-- String(StringBuilder) -/
theorem c_J0_init1 (l : Launch) (D : va_G) (cy : Nat → ClassId) (A : Nat → Prop) (sad : Nat → Nat) (w : va_W) (p0 p1 p2 a b s n cap : Nat) (f : Nat → Int32) (h0 : w[p0]? = some (tCell a b n)) (h1 : w[p1]? = some (tRow (cy 3) b cap f)) (h2 : w[p2]? = some (s, .inr (13, [.null, .int 0, .int 0, .int 0]))) (hcap : cap < 2 ^ 28) (hn : n ≤ cap) (hf : sb_Fit f) : Met l yJ0_init_81219 (wsA yJ0_init_81219 cJ0_init_81219 2 none) ({ frames := 4, cells := 1, slots := n, locals := 91 }) (PcH D cy A sad (WBd D A w) [.ref s, .ref a]) (va_Qv (fun u : Nat × (Nat → Int32) => ∀ j, j < n → u.2 j = f j) (fun u t => WBd D A (w.set p2 (sObj s u.1) ++ [tRow (cy 3) u.1 n u.2]) t.heap) A) 1 n A := by
  refine met_ofP (fun _ => 0) [(0, .ref s), (1, .ref a)] (by decide +kernel) (Nat.le_of_ble_eq_true rfl) rfl ?_
  intro G C hl hR hL hD hcy hA had hsa hr hQ
  subst hD hcy hA hsa hl
  refine g_aload_n C dJ0_init_81219_0 0 rfl ?_
  refine g_aload_n C dJ0_init_81219_1 1 rfl ?_
  refine gW_null C dJ0_init_81219_2 ?_
  refine gW_ctor (S := Nat × (Nat → Int32)) (WQ := fun u => WB G (w.set p2 (sObj s u.1) ++ [tRow (gcy G 3) u.1 n u.2])) (post := fun u => ∀ j, j < n → u.2 j = f j) C (c_J0_init2 _ _ _ _ _ w p0 p1 p2 a b s n cap f h0 h1 h2 hcap hn hf) tw1208 tw1209 rfl tw14 tw1210 ⟨by decide +kernel, by decide +kernel, rfl⟩ ⟨rfl, rfl⟩ (by rw [hR]; exact ⟨by show 3 + 1 ≤ 4; decide, by show 8 + (5 + 11) + 67 ≤ 91; decide⟩) rfl (Nat.le_of_ble_eq_true rfl) dJ0_init_81219_3 (by rw [hR]; exact ⟨by show 0 + 1 ≤ 1; decide, by show 0 + n ≤ n; omega⟩) (fun u hu => ?_)
  exact g_vret (S := Nat × (Nat → Int32)) (WQ := fun u => WB G (w.set p2 (sObj s u.1) ++ [tRow (gcy G 3) u.1 n u.2])) (post := fun u => ∀ j, j < n → u.2 j = f j) u C hr hQ (by omega) (by omega) dJ0_init_81219_6 hu (fun H h => h)
/-- StringBuilder.toString -/
theorem c_J4_toString (l : Launch) (D : va_G) (cy : Nat → ClassId) (A : Nat → Prop) (sad : Nat → Nat) (w : va_W) (p0 p1 a b n cap : Nat) (f : Nat → Int32) (h0 : w[p0]? = some (tCell a b n)) (h1 : w[p1]? = some (tRow (cy 3) b cap f)) (hcap : cap < 2 ^ 28) (hn : n ≤ cap) (hf : sb_Fit f) : Met l yJ4_toString_0e30d (wsA yJ4_toString_0e30d cJ4_toString_0e30d 1 (some (.object "java/lang/String"))) ({ frames := 5, cells := 2, slots := 4 + n, locals := 112 }) (PcH D cy A sad (WBd D A w) [.ref a]) (va_Qr (fun u : Nat × (Nat → Int32) => ∀ j, j < n → u.2 j = f j) (fun u s t => WBd D A (w ++ [sObj s u.1, tRow (cy 3) u.1 n u.2]) t.heap) A) 2 (4 + n) A := by
  refine met_ofP (fun _ => 0) [(0, .ref a)] (by decide +kernel) (Nat.le_of_ble_eq_true rfl) rfl ?_
  intro G C hl hR hL hD hcy hA had hsa hr hQ
  subst hD hcy hA hsa hl
  refine gW_new C (ci := 13) [.null, .int 0, .int 0, .int 0] inT_J0 tyJ0 tyJ0_ok tw1204 tw483 tw14 rfl (by decide +kernel) (by rw [hR]; exact ⟨by show 0 + 1 ≤ 2; decide, by show 0 + 4 ≤ 4 + n; omega⟩) dJ4_toString_0e30d_0 (fun s => ?_)
  refine g_dup C dJ4_toString_0e30d_3 rfl ?_
  refine g_aload_n C dJ4_toString_0e30d_4 0 rfl ?_
  refine gW_ctor (S := Nat × (Nat → Int32)) (WQ := fun u => WB G ((w ++ [((s, .inr (13, [.null, .int 0, .int 0, .int 0])) : Nat × va_E)]).set w.length (sObj s u.1) ++ [tRow (gcy G 3) u.1 n u.2])) (post := fun u => ∀ j, j < n → u.2 j = f j) C (c_J0_init1 _ _ _ _ _ _ p0 p1 w.length a b s n cap f (app_at _ h0) (app_at _ h1) (app_end w _) hcap hn hf) tw1205 tw1206 rfl tw14 tw1207 ⟨by decide +kernel, by decide +kernel, rfl⟩ ⟨rfl, rfl⟩ (by rw [hR]; exact ⟨by show 4 + 1 ≤ 5; decide, by show 8 + (2 + 11) + 91 ≤ 112; decide⟩) rfl (Nat.le_of_ble_eq_true rfl) dJ4_toString_0e30d_5 (by rw [hR]; exact ⟨by show 0 + 1 + 1 ≤ 2; decide, by show 0 + 4 + n ≤ 4 + n; omega⟩) (fun u hu => ?_)
  exact g_aretR (S := Nat × (Nat → Int32)) (post := fun u => ∀ j, j < n → u.2 j = f j) (WR := fun u s => WB G (w ++ [sObj s u.1, tRow (gcy G 3) u.1 n u.2])) u C hr (Or.inl ⟨_, rfl⟩) hQ (by omega) (by omega) dJ4_toString_0e30d_8 hu (fun H h => by
    rw [app_set, List.append_assoc] at h
    exact h)
