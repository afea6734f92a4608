/-! what lies beside the world: arrays made by callers -/
def kE (K : KF) (E : va_W) : KF := (K.1, K.2.1, K.2.2.1, E)
theorem kE_at (K : KF) : kE K K.2.2.2 = K := rfl
set_option maxRecDepth 100000 in
theorem wL_E (ad : Nat → Nat) (cy : Nat → ClassId) (b0 b1 : Nat) (f0 f1 : Nat → Int32) (X M : XF) (K : KF) (p : Nat) : (wL ad cy b0 b1 f0 f1 X M K)[p + 48]? = K.2.2.2[p]? := rfl
set_option maxRecDepth 100000 in
theorem wL_app (ad : Nat → Nat) (cy : Nat → ClassId) (b0 b1 : Nat) (f0 f1 : Nat → Int32) (X M : XF) (K : KF) (E : va_W) : wL ad cy b0 b1 f0 f1 X M K ++ E = wL ad cy b0 b1 f0 f1 X M (kE K (K.2.2.2 ++ E)) := rfl
set_option maxRecDepth 100000 in
theorem wL_Eset (ad : Nat → Nat) (cy : Nat → ClassId) (b0 b1 : Nat) (f0 f1 : Nat → Int32) (X M : XF) (K : KF) (p : Nat) (x : Nat × va_E) : (wL ad cy b0 b1 f0 f1 X M K).set (p + 48) x = wL ad cy b0 b1 f0 f1 X M (kE K (K.2.2.2.set p x)) := rfl
theorem Wd_drop {D : va_G} {cy : Nat → ClassId} {A : Nat → Prop} {ad : Nat → Nat} {X M : XF} {K : KF} {E E2 : va_W} {H : Heap} (hE : K.2.2.2 = E ++ E2) (h : Wd D cy A ad X M K H) : Wd D cy A ad X M (kE K E) H := by
  obtain ⟨b0, b1, f0, f1, h0, h1, hP, hD⟩ := h
  have e : wL ad cy b0 b1 f0 f1 X M K = wL ad cy b0 b1 f0 f1 X M (kE K E) ++ E2 := by
    rw [wL_app]
    show _ = wL ad cy b0 b1 f0 f1 X M (kE K (E ++ E2))
    rw [← hE]
    rfl
  rw [e] at hP hD
  have up : ∀ (k : Nat) (q : Nat × va_E), (wL ad cy b0 b1 f0 f1 X M (kE K E))[k]? = some q → (wL ad cy b0 b1 f0 f1 X M (kE K E) ++ E2)[k]? = some q := fun k q hk => by
    rw [List.getElem?_append_left (List.getElem?_eq_some_iff.mp hk).1]
    exact hk
  exact ⟨b0, b1, f0, f1, h0, h1, fun k q hk => hP k q (up k q hk), fun i j p q hi hj => hD.1 i j p q (up i p hi) (up j q hj), fun k q hk => hD.2 k q (up k q hk)⟩
section
variable {G : MC} {cc : ByteArray} {own : String} {X M : XF} {K : KF} {L L' : List (Nat × Value)} {k n pc : Nat} {stk : List Value}
theorem g_L (hl : L = L') (h : GH G (WX G X M K) L' k n pc stk) : GH G (WX G X M K) L k n pc stk := by subst hl; exact h
theorem g_drop {E E2 : va_W} (hE : K.2.2.2 = E ++ E2) (kk : GH G (WX G X M (kE K E)) L k n pc stk) : GH G (WX G X M K) L k n pc stk := g_W (fun _ h => Wd_drop hE h) kk
theorem e_iald (C : Cx G cc own) {q N i p : Nat} {g : Nat → Int32} (hE : K.2.2.2[p]? = some (q, .inl (gcy G 0, N, .inl g))) (hi : i < N) (hN : N < 2 ^ 31) (d : decode cc pc = .ok (.iaload, 1)) (kk : GH G (WX G X M K) L k n (pc + 1) (.int (g i) :: stk)) : GH G (WX G X M K) L k n pc (.int (nI i) :: .ref q :: stk) := g_iald C (p + 48) (fun b0 b1 f0 f1 => (wL_E _ _ _ _ _ _ _ _ _ _).trans hE) hi hN d kk
theorem e_iast (C : Cx G cc own) {q N i p : Nat} {g : Nat → Int32} {x : Int32} {K' : KF} (hE : K.2.2.2[p]? = some (q, .inl (gcy G 0, N, .inl g))) (hi : i < N) (hN : N < 2 ^ 31) (hK : kE K (K.2.2.2.set p (q, .inl (gcy G 0, N, .inl (upd g i x)))) = K') (d : decode cc pc = .ok (.iastore, 1)) (kk : GH G (WX G X M K') L k n (pc + 1) stk) : GH G (WX G X M K) L k n pc (.int x :: .int (nI i) :: .ref q :: stk) := by
  intro H locs ls hl hw hS
  subst hK
  obtain ⟨b0, b1, f0, f1, h0, h1, hP, hD⟩ := id hw
  refine va_iast C.x C.b C.K hP hD hS (p + 48) 0 ((wL_E _ _ _ _ _ _ _ _ _ _).trans hE) rfl (vp_in_nI hi hN) d (fun H locs hP hD hS => ?_)
  rw [nI_clamp (by omega), wL_Eset] at hP hD
  exact kk H locs ls hl ⟨b0, b1, f0, f1, h0, h1, hP, hD⟩ hS
theorem e_newi (C : Cx G cc own) {m : Nat} (hm : m < 2 ^ 26) (hf : k + 1 ≤ (gR G).cells ∧ n + m ≤ (gR G).slots) (d : decode cc pc = .ok (.newarray .int, 2)) (E : va_W) (hE : K.2.2.2 = E) (E' : Nat → va_W) (hE' : ∀ q, E ++ [(q, .inl (gcy G 0, m, .inl (fun _ => 0)))] = E' q) (kk : ∀ q : Nat, GH G (WX G X M (kE K (E' q))) L (k + 1) (n + m) (pc + 2) (.ref q :: stk)) : GH G (WX G X M K) L k n pc (.int (nI m) :: stk) := by
  intro H locs ls hl hw hS
  obtain ⟨b0, b1, f0, f1, h0, h1, hP, hD⟩ := id hw
  refine va_newa (atype := .int) C.x C.b (C.ts _ tw72) rfl C.K hP hD hS C.new (a0 := (m, .inl (fun _ => 0))) (fun cA => rfl) (nI_pos (by omega)) (nI_clamp (by omega)) (by show m * 4 ≤ _; omega) hf.1 hf.2 d (fun q cA H1 hK hP hD hS1 => ?_)
  have e1 := (hK.2 4 (cA, .int) rfl).2
  have e2 := (C.K.2 0 (gcy G 0, .int) rfl).2
  have e : cA = gcy G 0 := Option.some.inj (e1.symm.trans e2)
  subst e
  rw [wL_app, hE, hE' q] at hP hD
  exact kk q H1 locs ls hl ⟨b0, b1, f0, f1, h0, h1, hP, hD⟩ hS1
end
/-- the first i numbers of f, written one by one -/
def fr (f : Nat → Int32) : Nat → Nat → Int32
  | 0 => fun _ => 0
  | i + 1 => upd (fr f i) i (f i)
theorem fr_at {f : Nat → Int32} : ∀ {i j : Nat}, j < i → fr f i j = f j
  | 0, _, h => absurd h (Nat.not_lt_zero _)
  | i + 1, j, h => by
    show upd (fr f i) i (f i) j = f j
    by_cases e : j = i
    · subst e; exact up_us _ _ _
    · rw [pk_un e]; exact fr_at (by omega)
/-- the texts' growth doesn't look at what lies beside -/
theorem kE_ls (E : va_W) (v : Nat) : ∀ (cs : List Nat) (K : KF), kLs (kE K E) 0 v cs = kE (kLs K 0 v cs) E
  | [], _ => rfl
  | c :: cs, K => kE_ls E v cs (kLg K 0 v c)
theorem kE_ps (z z5 z8 v : Nat) (X : XF) (K : KF) (E : va_W) : ∀ i, ps_K z z5 z8 v X (kE K E) i = kE (ps_K z z5 z8 v X K i) E
  | 0 => rfl
  | i + 1 => by
    show kLs (ps_K z z5 z8 v X (kE K E) i) 0 (v + i) _ = _
    rw [kE_ps z z5 z8 v X K E i, kE_ls]
    rfl
theorem ls_E (v : Nat) : ∀ (cs : List Nat) (K : KF), (kLs K 0 v cs).2.2.2 = K.2.2.2
  | [], _ => rfl
  | c :: cs, K => ls_E v cs (kLg K 0 v c)

/-! a constant text of the law -/
section
variable {G : MC} {cc : ByteArray} {own : String} {Wp : Heap → Prop} {L : List (Nat × Value)} {k n pc mc ms : Nat} {stk : List Value}
theorem g_kS0 (C : Cx G cc own) : vk_S 1 [6] [kndB] (fun _ => gsa G 1000) (fun _ => gsa G 1001) (gA G) (gs G) (gs G).heap := C.gl.2.2.2.2.2.2.2.2.2.2.2.2.1
theorem g_kldc1000 (C : Cx G cc "LaunchRangeLaw") (d : decode cc pc = .ok (.ldc 186, 2)) (kk : GH G Wp L k n (pc + 2) (.ref (gsa G 1000) :: stk)) : GH G Wp L k n pc stk := fun H locs ls hl hw hS => va_ldcS C.x C.b C.o C.gl.2.2.2.2.2.2.2.2.2.2.2.1.1 d (kk H locs ls hl hw hS)
theorem g_kval0 (C : Cx G cc own) {idx : Nat} (hk : Cond.fieldLink own idx "java/lang/String" "value" "[B" ∈ lw_all) (d : decode cc pc = .ok (.getfield idx, 3)) (kk : GH G Wp L k n (pc + 3) (.ref (gsa G 1001) :: stk)) : GH G Wp L k n pc (.ref (gsa G 1000) :: stk) := fun H locs ls hl hw hS => vk_getf C.x C.b ((g_kS0 C).1 0 (by decide)).2.2.1 hS C.o (C.ts _ hk) (fun _ h => h) d (kk H locs ls hl hw hS)
theorem g_kcod0 (C : Cx G cc own) {idx : Nat} (hk : Cond.fieldLink own idx "java/lang/String" "coder" "B" ∈ lw_all) (d : decode cc pc = .ok (.getfield idx, 3)) (kk : GH G Wp L k n (pc + 3) (.int 0 :: stk)) : GH G Wp L k n pc (.ref (gsa G 1000) :: stk) := fun H locs ls hl hw hS => vk_getf C.x C.b ((g_kS0 C).1 0 (by decide)).2.1 hS C.o (C.ts _ hk) (fun _ h => h) d (kk H locs ls hl hw hS)
theorem g_klen0 (C : Cx G cc own) (d : decode cc pc = .ok (.arraylength, 1)) (kk : GH G Wp L k n (pc + 1) (.int 6 :: stk)) : GH G Wp L k n pc (.ref (gsa G 1001) :: stk) := fun H locs ls hl hw hS => va_tlen C.x C.b ((g_kS0 C).1 0 (by decide)).2.2.2 hS rfl d (kk H locs ls hl hw hS)
theorem g_kld0 (C : Cx G cc own) {i : Nat} (hi : i < 6) (d : decode cc pc = .ok (.baload, 1)) (kk : GH G Wp L k n (pc + 1) (.int (kndB.getD i 0) :: stk)) : GH G Wp L k n pc (.int (nI i) :: .ref (gsa G 1001) :: stk) := fun H locs ls hl hw hS => va_tb C.x C.b ((g_kS0 C).1 0 (by decide)).2.2.2 hS (vp_in_nI hi (by decide)) (by rw [nI_clamp (by omega)]; rfl) d (kk H locs ls hl hw hS)
end
section
variable {G : MC} {cc : ByteArray} {own : String} {Wp : Heap → Prop} {L : List (Nat × Value)} {k n pc mc ms : Nat} {y : MethodName} {bytes : ByteArray} {maxL idx b : Nat} {ret : Option FieldType} {rm : Room} {As rest st0 : List Value}
theorem g_callK0 {S : Type} {WQ : S → Heap → Prop} {post : Int32 → S → Prop} (C : Cx G cc own) (hy : y.cls = "java/lang/String") (hM : Met (gl G) y (wsA y bytes maxL ret) rm (PcH (gD G) (gcy G) (gA G) (gsa G) Wp (.ref (gsa G 1000) :: As)) (va_Qi post (fun u t => WQ u t.heap) (gA G)) mc ms (gA G)) (hlk : Cond.methodLink own idx y ∈ lw_all) (hin : Cond.instanceMethod y ∈ lw_all) (hse : Cond.selects y.cls y y ∈ lw_all) (hini : Cond.initialized y.cls ∈ lw_all) (hco : Cond.code y bytes maxL ret ∈ lw_all) (hd : y.cls ≠ "java/lang/invoke/MethodHandle" ∧ y.cls ≠ "java/lang/invoke/VarHandle" ∧ (parseMethodDescriptor y.desc).map (fun d => d.parameters.length) = some As.length) (hrm : rm.cells = mc ∧ rm.slots = ms) (hR : rm.frames + 1 ≤ (gR G).frames ∧ 8 + (maxL + 11) + rm.locals ≤ (gR G).locals) (hst0 : st0 = As.reverse ++ .ref (gsa G 1000) :: rest) (hW : (rest.map fun v => v.category).sum ≤ 8) (d : decode cc pc = .ok (.invokevirtual idx, 3)) (hf : k + mc ≤ (gR G).cells ∧ n + ms ≤ (gR G).slots) (kk : ∀ (r : Int32) (u : S), post r u → GH G (WQ u) L (k + mc) (n + ms) (pc + 3) (.int r :: rest)) : GH G Wp L k n pc st0 := by
  intro H locs ls hl hw hS
  have hrc : ∃ cellB : Cell, H[gsa G 1000]? = some cellB ∧ cellB.vm.isStatics = false ∧ (gs G).vm.findClass y.cls = some cellB.cls := by
    rw [hy]
    exact vk_recv (i := 0) (g_kS0 C) (by decide) hS
  exact va_calli (va_runV (As := As) (rest := rest) C.fix hM (cwV As.length C.ts (goodV hlk hin hse hini (goodA hco)) rfl hrm.1 hrm.2 ⟨rfl, hd⟩ hR) ⟨PcH.blind, hrc, fun U hU hW => PcH.at C hw hS hU hW⟩ rfl rfl hl.1 hst0 (lv_room hW) d hf) hS (fun q _ h => h) (fun q h => h) (fun r u t H1 locs1 ht hvm hp hB hz hk hS1 => kk r u hp H1 locs1 ls hl (by rw [← ht]; exact hB) hS1)
theorem g_callKiP0 {pst : Int32 → Prop} (C : Cx G cc own) (hy : y.cls = "java/lang/String") (hM : Met (gl G) y (wsA y bytes maxL ret) rm (PcH (gD G) (gcy G) (gA G) (gsa G) Wp (.ref (gsa G 1000) :: As)) (QiP (gA G) Wp pst) mc ms (gA G)) (hlk : Cond.methodLink own idx y ∈ lw_all) (hin : Cond.instanceMethod y ∈ lw_all) (hse : Cond.selects y.cls y y ∈ lw_all) (hini : Cond.initialized y.cls ∈ lw_all) (hco : Cond.code y bytes maxL ret ∈ lw_all) (hst0 : st0 = As.reverse ++ .ref (gsa G 1000) :: rest) (hd : y.cls ≠ "java/lang/invoke/MethodHandle" ∧ y.cls ≠ "java/lang/invoke/VarHandle" ∧ (parseMethodDescriptor y.desc).map (fun d => d.parameters.length) = some As.length) (hrm : rm.cells = mc ∧ rm.slots = ms) (hR : rm.frames + 1 ≤ (gR G).frames ∧ 8 + (maxL + 11) + rm.locals ≤ (gR G).locals) (hW : (rest.map fun v => v.category).sum ≤ 8) (d : decode cc pc = .ok (.invokevirtual idx, 3)) (hf : k + mc ≤ (gR G).cells ∧ n + ms ≤ (gR G).slots) (kk : ∀ r, pst r → GH G Wp L (k + mc) (n + ms) (pc + 3) (.int r :: rest)) : GH G Wp L k n pc st0 := g_callK0 (S := Unit) (WQ := fun _ => Wp) (post := fun r _ => pst r) C hy hM hlk hin hse hini hco hd hrm hR hst0 hW d hf (fun r _ h => kk r h)
end

/-! a constant text of the law -/
section
variable {G : MC} {cc : ByteArray} {own : String} {Wp : Heap → Prop} {L : List (Nat × Value)} {k n pc mc ms : Nat} {stk : List Value}
theorem g_kS2 (C : Cx G cc own) : vk_S 1 [8] [ltrB] (fun _ => gsa G 1002) (fun _ => gsa G 1003) (gA G) (gs G) (gs G).heap := C.gl.2.2.2.2.2.2.2.2.2.2.2.2.2.1
theorem g_kldc1002 (C : Cx G cc "LaunchRangeLaw") (d : decode cc pc = .ok (.ldc 250, 2)) (kk : GH G Wp L k n (pc + 2) (.ref (gsa G 1002) :: stk)) : GH G Wp L k n pc stk := fun H locs ls hl hw hS => va_ldcS C.x C.b C.o C.gl.2.2.2.2.2.2.2.2.2.2.2.1.2 d (kk H locs ls hl hw hS)
theorem g_kval2 (C : Cx G cc own) {idx : Nat} (hk : Cond.fieldLink own idx "java/lang/String" "value" "[B" ∈ lw_all) (d : decode cc pc = .ok (.getfield idx, 3)) (kk : GH G Wp L k n (pc + 3) (.ref (gsa G 1003) :: stk)) : GH G Wp L k n pc (.ref (gsa G 1002) :: stk) := fun H locs ls hl hw hS => vk_getf C.x C.b ((g_kS2 C).1 0 (by decide)).2.2.1 hS C.o (C.ts _ hk) (fun _ h => h) d (kk H locs ls hl hw hS)
theorem g_kcod2 (C : Cx G cc own) {idx : Nat} (hk : Cond.fieldLink own idx "java/lang/String" "coder" "B" ∈ lw_all) (d : decode cc pc = .ok (.getfield idx, 3)) (kk : GH G Wp L k n (pc + 3) (.int 0 :: stk)) : GH G Wp L k n pc (.ref (gsa G 1002) :: stk) := fun H locs ls hl hw hS => vk_getf C.x C.b ((g_kS2 C).1 0 (by decide)).2.1 hS C.o (C.ts _ hk) (fun _ h => h) d (kk H locs ls hl hw hS)
theorem g_klen2 (C : Cx G cc own) (d : decode cc pc = .ok (.arraylength, 1)) (kk : GH G Wp L k n (pc + 1) (.int 8 :: stk)) : GH G Wp L k n pc (.ref (gsa G 1003) :: stk) := fun H locs ls hl hw hS => va_tlen C.x C.b ((g_kS2 C).1 0 (by decide)).2.2.2 hS rfl d (kk H locs ls hl hw hS)
theorem g_kld2 (C : Cx G cc own) {i : Nat} (hi : i < 8) (d : decode cc pc = .ok (.baload, 1)) (kk : GH G Wp L k n (pc + 1) (.int (ltrB.getD i 0) :: stk)) : GH G Wp L k n pc (.int (nI i) :: .ref (gsa G 1003) :: stk) := fun H locs ls hl hw hS => va_tb C.x C.b ((g_kS2 C).1 0 (by decide)).2.2.2 hS (vp_in_nI hi (by decide)) (by rw [nI_clamp (by omega)]; rfl) d (kk H locs ls hl hw hS)
end
section
variable {G : MC} {cc : ByteArray} {own : String} {Wp : Heap → Prop} {L : List (Nat × Value)} {k n pc mc ms : Nat} {y : MethodName} {bytes : ByteArray} {maxL idx b : Nat} {ret : Option FieldType} {rm : Room} {As rest st0 : List Value}
theorem g_callK2 {S : Type} {WQ : S → Heap → Prop} {post : Int32 → S → Prop} (C : Cx G cc own) (hy : y.cls = "java/lang/String") (hM : Met (gl G) y (wsA y bytes maxL ret) rm (PcH (gD G) (gcy G) (gA G) (gsa G) Wp (.ref (gsa G 1002) :: As)) (va_Qi post (fun u t => WQ u t.heap) (gA G)) mc ms (gA G)) (hlk : Cond.methodLink own idx y ∈ lw_all) (hin : Cond.instanceMethod y ∈ lw_all) (hse : Cond.selects y.cls y y ∈ lw_all) (hini : Cond.initialized y.cls ∈ lw_all) (hco : Cond.code y bytes maxL ret ∈ lw_all) (hd : y.cls ≠ "java/lang/invoke/MethodHandle" ∧ y.cls ≠ "java/lang/invoke/VarHandle" ∧ (parseMethodDescriptor y.desc).map (fun d => d.parameters.length) = some As.length) (hrm : rm.cells = mc ∧ rm.slots = ms) (hR : rm.frames + 1 ≤ (gR G).frames ∧ 8 + (maxL + 11) + rm.locals ≤ (gR G).locals) (hst0 : st0 = As.reverse ++ .ref (gsa G 1002) :: rest) (hW : (rest.map fun v => v.category).sum ≤ 8) (d : decode cc pc = .ok (.invokevirtual idx, 3)) (hf : k + mc ≤ (gR G).cells ∧ n + ms ≤ (gR G).slots) (kk : ∀ (r : Int32) (u : S), post r u → GH G (WQ u) L (k + mc) (n + ms) (pc + 3) (.int r :: rest)) : GH G Wp L k n pc st0 := by
  intro H locs ls hl hw hS
  have hrc : ∃ cellB : Cell, H[gsa G 1002]? = some cellB ∧ cellB.vm.isStatics = false ∧ (gs G).vm.findClass y.cls = some cellB.cls := by
    rw [hy]
    exact vk_recv (i := 0) (g_kS2 C) (by decide) hS
  exact va_calli (va_runV (As := As) (rest := rest) C.fix hM (cwV As.length C.ts (goodV hlk hin hse hini (goodA hco)) rfl hrm.1 hrm.2 ⟨rfl, hd⟩ hR) ⟨PcH.blind, hrc, fun U hU hW => PcH.at C hw hS hU hW⟩ rfl rfl hl.1 hst0 (lv_room hW) d hf) hS (fun q _ h => h) (fun q h => h) (fun r u t H1 locs1 ht hvm hp hB hz hk hS1 => kk r u hp H1 locs1 ls hl (by rw [← ht]; exact hB) hS1)
theorem g_callKiP2 {pst : Int32 → Prop} (C : Cx G cc own) (hy : y.cls = "java/lang/String") (hM : Met (gl G) y (wsA y bytes maxL ret) rm (PcH (gD G) (gcy G) (gA G) (gsa G) Wp (.ref (gsa G 1002) :: As)) (QiP (gA G) Wp pst) mc ms (gA G)) (hlk : Cond.methodLink own idx y ∈ lw_all) (hin : Cond.instanceMethod y ∈ lw_all) (hse : Cond.selects y.cls y y ∈ lw_all) (hini : Cond.initialized y.cls ∈ lw_all) (hco : Cond.code y bytes maxL ret ∈ lw_all) (hst0 : st0 = As.reverse ++ .ref (gsa G 1002) :: rest) (hd : y.cls ≠ "java/lang/invoke/MethodHandle" ∧ y.cls ≠ "java/lang/invoke/VarHandle" ∧ (parseMethodDescriptor y.desc).map (fun d => d.parameters.length) = some As.length) (hrm : rm.cells = mc ∧ rm.slots = ms) (hR : rm.frames + 1 ≤ (gR G).frames ∧ 8 + (maxL + 11) + rm.locals ≤ (gR G).locals) (hW : (rest.map fun v => v.category).sum ≤ 8) (d : decode cc pc = .ok (.invokevirtual idx, 3)) (hf : k + mc ≤ (gR G).cells ∧ n + ms ≤ (gR G).slots) (kk : ∀ r, pst r → GH G Wp L (k + mc) (n + ms) (pc + 3) (.int r :: rest)) : GH G Wp L k n pc st0 := g_callK2 (S := Unit) (WQ := fun _ => Wp) (post := fun r _ => pst r) C hy hM hlk hin hse hini hco hd hrm hR hst0 hW d hf (fun r _ h => kk r h)
end

/-- where a letter stands in a row of letters -/
def kx (b : List Int32) (c : Int32) : Nat → Nat → Int32
  | 0, _ => -1
  | n + 1, i => if b.getD i 0 = c then nI i else kx b c n (i + 1)
def kz (b : List Int32) (n : Nat) (p : Int32) : Int32 := if inr 0 255 p = 0 then -1 else kx b p.toInt8.toInt32 n 0
theorem kb0 : ∀ i : Nat, i < 6 → ((kndB.getD i 0 &&& 255).toUInt32 % 65536).toInt32 = kndB.getD i 0 ∧ narrow .char (.int (kndB.getD i 0)) = .int (kndB.getD i 0) := by decide +kernel
theorem kb2 : ∀ i : Nat, i < 8 → ((ltrB.getD i 0 &&& 255).toUInt32 % 65536).toInt32 = ltrB.getD i 0 ∧ narrow .char (.int (ltrB.getD i 0)) = .int (ltrB.getD i 0) := by decide +kernel

set_option maxHeartbeats 400000 in
/-- String.coder -/
theorem c0_J0_coder_7d493 (l : Launch) (D : va_G) (cy : Nat → ClassId) (A : Nat → Prop) (sad : Nat → Nat) (Wp : Heap → Prop) : Met l yJ0_coder_7d493 (wsA yJ0_coder_7d493 cJ0_coder_7d493 1 (some .byte)) ({ frames := 0, cells := 0, slots := 0, locals := 0 }) (PcH D cy A sad Wp [.ref (sad 1000)]) (QiP A Wp (fun r => r = 0)) 0 0 A := by
  refine met_ofP (fun _ => 0) [(0, .ref (sad 1000))] (by decide +kernel) (Nat.le_of_ble_eq_true rfl) rfl ?_
  intro G C hl hR hL hD hcy hA had hsa hr hQ
  subst hD hcy hA hsa hl
  refine g_compact C tw1124 dJ0_coder_7d493_0 ?_
  refine g_if_eq C dJ0_coder_7d493_3 (tgt := 13) (by decide) (fun c_3 => absurd c_3 (by decide)) (fun c_3 => ?_)
  refine g_aload_n C dJ0_coder_7d493_6 0 rfl ?_
  refine g_kcod0 C tw1283 dJ0_coder_7d493_7 ?_
  refine g_goto C dJ0_coder_7d493_10 (tgt := 14) (by decide) ?_
  refine g_zretP C hr (by decide) hQ (by decide) (by decide) dJ0_coder_7d493_14 ?_
  rfl

set_option maxHeartbeats 400000 in
/-- String.isLatin1 -/
theorem c0_J0_isLatin1_aae02 (l : Launch) (D : va_G) (cy : Nat → ClassId) (A : Nat → Prop) (sad : Nat → Nat) (Wp : Heap → Prop) : Met l yJ0_isLatin1_aae02 (wsA yJ0_isLatin1_aae02 cJ0_isLatin1_aae02 1 (some .boolean)) ({ frames := 0, cells := 0, slots := 0, locals := 0 }) (PcH D cy A sad Wp [.ref (sad 1000)]) (QiP A Wp (fun r => r = 1)) 0 0 A := by
  refine met_ofP (fun _ => 0) [(0, .ref (sad 1000))] (by decide +kernel) (Nat.le_of_ble_eq_true rfl) rfl ?_
  intro G C hl hR hL hD hcy hA had hsa hr hQ
  subst hD hcy hA hsa hl
  refine g_compact C tw1124 dJ0_isLatin1_aae02_0 ?_
  refine g_if_eq C dJ0_isLatin1_aae02_3 (tgt := 17) (by decide) (fun c_3 => absurd c_3 (by decide)) (fun c_3 => ?_)
  refine g_aload_n C dJ0_isLatin1_aae02_6 0 rfl ?_
  refine g_kcod0 C tw1283 dJ0_isLatin1_aae02_7 ?_
  refine g_if_ne C dJ0_isLatin1_aae02_10 (tgt := 17) (by decide) (fun c_10 => absurd c_10 (by decide)) (fun c_10 => ?_)
  refine g_iconst C dJ0_isLatin1_aae02_13 (v := 1) (by decide) ?_
  refine g_goto C dJ0_isLatin1_aae02_14 (tgt := 18) (by decide) ?_
  refine g_zretP C hr (by decide) hQ (by decide) (by decide) dJ0_isLatin1_aae02_18 ?_
  rfl

set_option maxHeartbeats 400000 in
/-- String.length -/
theorem c0_J0_length_8abf5 (l : Launch) (D : va_G) (cy : Nat → ClassId) (A : Nat → Prop) (sad : Nat → Nat) (Wp : Heap → Prop) : Met l yJ0_length_8abf5 (wsA yJ0_length_8abf5 cJ0_length_8abf5 1 (some .int)) ({ frames := 1, cells := 0, slots := 0, locals := 20 }) (PcH D cy A sad Wp [.ref (sad 1000)]) (QiP A Wp (fun r => r = 6)) 0 0 A := by
  refine met_ofP (fun _ => 0) [(0, .ref (sad 1000))] (by decide +kernel) (Nat.le_of_ble_eq_true rfl) rfl ?_
  intro G C hl hR hL hD hcy hA had hsa hr hQ
  subst hD hcy hA hsa hl
  refine g_aload_n C dJ0_length_8abf5_0 0 rfl ?_
  refine g_kval0 C tw1282 dJ0_length_8abf5_1 ?_
  refine g_klen0 C dJ0_length_8abf5_4 ?_
  refine g_aload_n C dJ0_length_8abf5_5 0 rfl ?_
  refine g_callKiP0 C rfl (c0_J0_coder_7d493 _ _ _ _ _ _) tw1251 tw1252 tw1253 tw14 tw1254 rfl ⟨by decide +kernel, by decide +kernel, rfl⟩ ⟨rfl, rfl⟩ (by rw [hR]; decide) (Nat.le_of_ble_eq_true rfl) dJ0_length_8abf5_6 (by rw [hR]; decide) (fun r_1 h_2 => ?_)
  refine g_topi (y := 0) h_2 ?_
  refine g_ishr C dJ0_length_8abf5_9 ?_
  refine g_iretP C hr hQ (by decide) (by decide) dJ0_length_8abf5_10 ?_
  rfl

set_option maxHeartbeats 400000 in
/-- StringLatin1.canEncode -/
theorem c0_J1_canEncode_9a6ad (l : Launch) (D : va_G) (cy : Nat → ClassId) (A : Nat → Prop) (sad : Nat → Nat) (Wp : Heap → Prop) (p0 : Int32) : Met l yJ1_canEncode_9a6ad (wsA yJ1_canEncode_9a6ad cJ1_canEncode_9a6ad 1 (some .boolean)) ({ frames := 0, cells := 0, slots := 0, locals := 0 }) (PcH D cy A sad Wp [.int p0]) (QiP A Wp (fun r => r = inr 0 255 p0)) 0 0 A := by
  refine met_ofP (fun _ => 0) [(0, .int p0)] (by decide +kernel) (Nat.le_of_ble_eq_true rfl) rfl ?_
  intro G C hl hR hL hD hcy hA had hsa hr hQ
  subst hD hcy hA hsa hl
  refine g_iload_n C dJ1_canEncode_9a6ad_0 0 rfl ?_
  refine g_if_lt C dJ1_canEncode_9a6ad_1 (tgt := 15) (by decide) (fun c_1 => ?_) (fun c_1 => ?_)
  · try simp only [sa_ap, si_ap, reduceIte, Nat.reduceEqDiff, up_us, lg_cmp_lt, lg_cmp_gt, lg_cmp_le, lg_cmp_ge] at c_1
    refine g_iconst C dJ1_canEncode_9a6ad_15 (v := 0) (by decide) ?_
    refine g_zretP C hr (by decide) hQ (by decide) (by decide) dJ1_canEncode_9a6ad_16 ?_
    exact (by first | with_reducible rfl | (first | with_reducible rfl | (simp only [sa_ap, si_ap, si_sa, sa_sa, sa_3, sa_4, sa_5, sa_6, sa_7, sa_8, inr, c_1]; done) | (simp [sa_ap, si_ap, si_sa, sa_sa, sa_3, sa_4, sa_5, sa_6, sa_7, sa_8, inr, c_1]; done)))
  · try simp only [sa_ap, si_ap, reduceIte, Nat.reduceEqDiff, up_us, lg_cmp_lt, lg_cmp_gt, lg_cmp_le, lg_cmp_ge] at c_1
    refine g_iload_n C dJ1_canEncode_9a6ad_4 0 rfl ?_
    refine g_sipush C dJ1_canEncode_9a6ad_5 (v := 255) (by decide) ?_
    refine g_icmp_gt C dJ1_canEncode_9a6ad_8 (tgt := 15) (by decide) (fun c_8 => ?_) (fun c_8 => ?_)
    · try simp only [sa_ap, si_ap, reduceIte, Nat.reduceEqDiff, up_us, lg_cmp_lt, lg_cmp_gt, lg_cmp_le, lg_cmp_ge] at c_8
      refine g_iconst C dJ1_canEncode_9a6ad_15 (v := 0) (by decide) ?_
      refine g_zretP C hr (by decide) hQ (by decide) (by decide) dJ1_canEncode_9a6ad_16 ?_
      exact (by first | with_reducible rfl | (first | with_reducible rfl | (simp only [sa_ap, si_ap, si_sa, sa_sa, sa_3, sa_4, sa_5, sa_6, sa_7, sa_8, inr, c_1, c_8]; done) | (simp [sa_ap, si_ap, si_sa, sa_sa, sa_3, sa_4, sa_5, sa_6, sa_7, sa_8, inr, c_1, c_8]; done)))
    · try simp only [sa_ap, si_ap, reduceIte, Nat.reduceEqDiff, up_us, lg_cmp_lt, lg_cmp_gt, lg_cmp_le, lg_cmp_ge] at c_8
      refine g_iconst C dJ1_canEncode_9a6ad_11 (v := 1) (by decide) ?_
      refine g_goto C dJ1_canEncode_9a6ad_12 (tgt := 16) (by decide) ?_
      refine g_zretP C hr (by decide) hQ (by decide) (by decide) dJ1_canEncode_9a6ad_16 ?_
      exact (by first | with_reducible rfl | (first | with_reducible rfl | (simp only [sa_ap, si_ap, si_sa, sa_sa, sa_3, sa_4, sa_5, sa_6, sa_7, sa_8, inr, c_1, c_8]; done) | (simp [sa_ap, si_ap, si_sa, sa_sa, sa_3, sa_4, sa_5, sa_6, sa_7, sa_8, inr, c_1, c_8]; done)))

set_option maxHeartbeats 400000 in
/-- StringLatin1.indexOfChar -/
theorem c0_J1_indexOfChar_4cfef (l : Launch) (D : va_G) (cy : Nat → ClassId) (A : Nat → Prop) (sad : Nat → Nat) (Wp : Heap → Prop) (p1 : Int32) : Met l yJ1_indexOfChar_4cfef (wsA yJ1_indexOfChar_4cfef cJ1_indexOfChar_4cfef 6 (some .int)) ({ frames := 0, cells := 0, slots := 0, locals := 0 }) (PcH D cy A sad Wp [.ref (sad 1001), .int p1, .int 0, .int 6]) (QiP A Wp (fun r => r = kx kndB p1.toInt8.toInt32 6 0)) 0 0 A := by
  refine met_ofP (fun _ => 0) [(0, .ref (sad 1001)), (1, .int p1), (2, .int 0), (3, .int 6)] (by decide +kernel) (Nat.le_of_ble_eq_true rfl) rfl ?_
  intro G C hl hR hL hD hcy hA had hsa hr hQ
  subst hD hcy hA hsa hl
  refine g_iload_n C dJ1_indexOfChar_4cfef_0 1 rfl ?_
  refine g_i2b C dJ1_indexOfChar_4cfef_1 ?_
  refine g_topi rfl ?_
  refine g_istore C dJ1_indexOfChar_4cfef_2 (L' := [(4, .int p1.toInt8.toInt32), (0, .ref (gsa G 1001)), (1, .int p1), (2, .int 0), (3, .int 6)]) rfl (by rw [hL]; decide) ?_
  refine g_iload_n C dJ1_indexOfChar_4cfef_4 3 rfl ?_
  refine g_istore C dJ1_indexOfChar_4cfef_5 (L' := [(5, .int 0), (4, .int p1.toInt8.toInt32), (0, .ref (gsa G 1001)), (1, .int p1), (2, .int 0), (3, .int 6)]) rfl (by rw [hL]; decide) ?_
  have lp7 : ∀ (n i : Nat) (hi : i + n = 6) (hf : kx kndB p1.toInt8.toInt32 6 0 = kx kndB p1.toInt8.toInt32 n i), GH G (Wp) [(0, .ref (gsa G 1001)), (1, .int p1), (2, .int 0), (3, .int 6), (4, .int p1.toInt8.toInt32), (5, .int (nI i))] 0 0 7 [] := by
    intro n
    induction n with
    | zero =>
      intro i hi hf
      obtain rfl : i = 6 := by omega
      refine g_iload C dJ1_indexOfChar_4cfef_7 5 rfl ?_
      refine g_iload_n C dJ1_indexOfChar_4cfef_9 3 rfl ?_
      refine g_icmp_ge C dJ1_indexOfChar_4cfef_10 (tgt := 31) (by decide) (fun c_10 => ?_) (fun c_10 => absurd (nI_le (a := 6) (b := 6) (Nat.le_refl _) (by omega)) c_10)
      refine g_iconst C dJ1_indexOfChar_4cfef_31 (v := (-1)) (by decide) ?_
      refine g_iretP C hr hQ (by decide) (by decide) dJ1_indexOfChar_4cfef_32 ?_
      exact hf.symm
    | succ n ih =>
      intro i hi hf
      refine g_iload C dJ1_indexOfChar_4cfef_7 5 rfl ?_
      refine g_iload_n C dJ1_indexOfChar_4cfef_9 3 rfl ?_
      refine g_icmp_ge C dJ1_indexOfChar_4cfef_10 (tgt := 31) (by decide) (fun c_10 => absurd c_10 (nI_ge (a := i) (b := 6) (by omega) (by omega))) (fun c_10 => ?_)
      refine g_aload_n C dJ1_indexOfChar_4cfef_13 0 rfl ?_
      refine g_iload C dJ1_indexOfChar_4cfef_14 5 rfl ?_
      refine g_kld0 C (by omega) dJ1_indexOfChar_4cfef_16 ?_
      refine g_iload C dJ1_indexOfChar_4cfef_17 4 rfl ?_
      refine g_icmp_ne C dJ1_indexOfChar_4cfef_19 (tgt := 25) (by decide) (fun c_19 => ?_) (fun c_19 => ?_)
      · try simp only [sa_ap, si_ap, reduceIte, Nat.reduceEqDiff, up_us, lg_cmp_lt, lg_cmp_gt, lg_cmp_le, lg_cmp_ge] at c_19
        refine g_iinc C dJ1_indexOfChar_4cfef_25 5 rfl (v := nI (i + 1)) (nI_1 _) (L' := [(5, .int (nI (i + 1))), (0, .ref (gsa G 1001)), (1, .int p1), (2, .int 0), (3, .int 6), (4, .int p1.toInt8.toInt32)]) rfl (by rw [hL]; decide) ?_
        refine g_goto C dJ1_indexOfChar_4cfef_28 (tgt := 7) (by decide) ?_
        exact g_sub [1, 2, 3, 4, 5, 0] rfl (ih (i + 1) (by omega) (by rw [hf]; exact if_neg c_19))
      · try simp only [sa_ap, si_ap, reduceIte, Nat.reduceEqDiff, up_us, lg_cmp_lt, lg_cmp_gt, lg_cmp_le, lg_cmp_ge] at c_19
        refine g_iload C dJ1_indexOfChar_4cfef_22 5 rfl ?_
        refine g_iretP C hr hQ (by decide) (by decide) dJ1_indexOfChar_4cfef_24 ?_
        exact (hf.trans (if_pos c_19)).symm
  exact g_sub [2, 3, 4, 5, 1, 0] rfl (lp7 (6) 0 (by omega) rfl)

set_option maxHeartbeats 400000 in
/-- StringLatin1.indexOf -/
theorem c0_J1_indexOf_4cfef (l : Launch) (D : va_G) (cy : Nat → ClassId) (A : Nat → Prop) (sad : Nat → Nat) (Wp : Heap → Prop) (p1 : Int32) : Met l yJ1_indexOf_4cfef (wsA yJ1_indexOf_4cfef cJ1_indexOf_4cfef 4 (some .int)) ({ frames := 1, cells := 0, slots := 0, locals := 25 }) (PcH D cy A sad Wp [.ref (sad 1001), .int p1, .int 0, .int 6]) (QiP A Wp (fun r => r = kz kndB 6 p1)) 0 0 A := by
  refine met_ofP (fun _ => 0) [(0, .ref (sad 1001)), (1, .int p1), (2, .int 0), (3, .int 6)] (by decide +kernel) (Nat.le_of_ble_eq_true rfl) rfl ?_
  intro G C hl hR hL hD hcy hA had hsa hr hQ
  subst hD hcy hA hsa hl
  refine g_iload_n C dJ1_indexOf_4cfef_0 1 rfl ?_
  refine g_callSiP C (c0_J1_canEncode_9a6ad _ _ _ _ _ _ _) tw1303 tw1304 tw31 tw1305 rfl ⟨by decide +kernel, by decide +kernel, rfl⟩ ⟨rfl, rfl⟩ (by rw [hR]; decide) (Nat.le_of_ble_eq_true rfl) dJ1_indexOf_4cfef_1 (by rw [hR]; decide) (fun r_1 h_2 => ?_)
  refine g_if_ne C dJ1_indexOf_4cfef_4 (tgt := 9) (by decide) (fun c_4 => ?_) (fun c_4 => ?_)
  · try simp only [sa_ap, si_ap, reduceIte, Nat.reduceEqDiff, up_us, lg_cmp_lt, lg_cmp_gt, lg_cmp_le, lg_cmp_ge] at c_4
    refine g_iload_n C dJ1_indexOf_4cfef_9 2 rfl ?_
    refine g_iconst C dJ1_indexOf_4cfef_10 (v := 0) (by decide) ?_
    refine g_max C dJ1_indexOf_4cfef_11 tw1306 (Nat.le_of_ble_eq_true rfl) (by rw [hR]; decide) ?_
    refine g_topi (y := tk_max _ _) rfl ?_
    refine g_topi (y := 0) (by decide) ?_
    refine g_istore_n C dJ1_indexOf_4cfef_14 (L' := [(2, .int 0), (0, .ref (gsa G 1001)), (1, .int p1), (3, .int 6)]) rfl (by rw [hL]; decide) ?_
    refine g_iload_n C dJ1_indexOf_4cfef_15 3 rfl ?_
    refine g_aload_n C dJ1_indexOf_4cfef_16 1 rfl ?_
    refine g_klen0 C dJ1_indexOf_4cfef_17 ?_
    refine g_min C dJ1_indexOf_4cfef_18 tw1307 (Nat.le_of_ble_eq_true rfl) (by rw [hR]; decide) ?_
    refine g_topi (y := tk_min _ _) rfl ?_
    refine g_topi (y := 6) (by decide) ?_
    refine g_istore_n C dJ1_indexOf_4cfef_21 (L' := [(3, .int 6), (2, .int 0), (0, .ref (gsa G 1001)), (1, .int p1)]) rfl (by rw [hL]; decide) ?_
    refine g_iload_n C dJ1_indexOf_4cfef_22 1 rfl ?_
    refine g_iload_n C dJ1_indexOf_4cfef_23 0 rfl ?_
    refine g_icmp_lt C dJ1_indexOf_4cfef_24 (tgt := 29) (by decide) (fun c_24 => ?_) (fun c_24 => absurd (by decide) c_24)
    refine g_aload_n C dJ1_indexOf_4cfef_29 2 rfl ?_
    refine g_iload_n C dJ1_indexOf_4cfef_30 3 rfl ?_
    refine g_iload_n C dJ1_indexOf_4cfef_31 1 rfl ?_
    refine g_iload_n C dJ1_indexOf_4cfef_32 0 rfl ?_
    refine g_callSiP C (c0_J1_indexOfChar_4cfef _ _ _ _ _ _ _) tw1308 tw1309 tw31 tw1310 rfl ⟨by decide +kernel, by decide +kernel, rfl⟩ ⟨rfl, rfl⟩ (by rw [hR]; decide) (Nat.le_of_ble_eq_true rfl) dJ1_indexOf_4cfef_33 (by rw [hR]; decide) (fun r_3 h_4 => ?_)
    refine g_iretP C hr hQ (by decide) (by decide) dJ1_indexOf_4cfef_36 ?_
    exact h_4.trans (if_neg (by rw [← h_2]; exact c_4)).symm
  · try simp only [sa_ap, si_ap, reduceIte, Nat.reduceEqDiff, up_us, lg_cmp_lt, lg_cmp_gt, lg_cmp_le, lg_cmp_ge] at c_4
    refine g_iconst C dJ1_indexOf_4cfef_7 (v := (-1)) (by decide) ?_
    refine g_iretP C hr hQ (by decide) (by decide) dJ1_indexOf_4cfef_8 ?_
    exact (if_pos (by rw [← h_2]; exact c_4)).symm

set_option maxHeartbeats 400000 in
/-- String.indexOf -/
theorem c0_J0_indexOf_7cf53 (l : Launch) (D : va_G) (cy : Nat → ClassId) (A : Nat → Prop) (sad : Nat → Nat) (Wp : Heap → Prop) (p1 : Int32) : Met l yJ0_indexOf_7cf53 (wsA yJ0_indexOf_7cf53 cJ0_indexOf_7cf53 3 (some .int)) ({ frames := 2, cells := 0, slots := 0, locals := 48 }) (PcH D cy A sad Wp [.ref (sad 1000), .int p1, .int 0]) (QiP A Wp (fun r => r = kz kndB 6 p1)) 0 0 A := by
  refine met_ofP (fun _ => 0) [(0, .ref (sad 1000)), (1, .int p1), (2, .int 0)] (by decide +kernel) (Nat.le_of_ble_eq_true rfl) rfl ?_
  intro G C hl hR hL hD hcy hA had hsa hr hQ
  subst hD hcy hA hsa hl
  refine g_aload_n C dJ0_indexOf_7cf53_0 0 rfl ?_
  refine g_callKiP0 C rfl (c0_J0_isLatin1_aae02 _ _ _ _ _ _) tw1120 tw1121 tw1122 tw14 tw1123 rfl ⟨by decide +kernel, by decide +kernel, rfl⟩ ⟨rfl, rfl⟩ (by rw [hR]; decide) (Nat.le_of_ble_eq_true rfl) dJ0_indexOf_7cf53_1 (by rw [hR]; decide) (fun r_1 h_2 => ?_)
  refine g_topi (y := 1) h_2 ?_
  refine g_if_eq C dJ0_indexOf_7cf53_4 (tgt := 23) (by decide) (fun c_4 => absurd c_4 (by decide)) (fun c_4 => ?_)
  refine g_aload_n C dJ0_indexOf_7cf53_7 0 rfl ?_
  refine g_kval0 C tw1282 dJ0_indexOf_7cf53_8 ?_
  refine g_iload_n C dJ0_indexOf_7cf53_11 1 rfl ?_
  refine g_iload_n C dJ0_indexOf_7cf53_12 2 rfl ?_
  refine g_aload_n C dJ0_indexOf_7cf53_13 0 rfl ?_
  refine g_callKiP0 C rfl (c0_J0_length_8abf5 _ _ _ _ _ _) tw1299 tw1248 tw1249 tw14 tw1250 rfl ⟨by decide +kernel, by decide +kernel, rfl⟩ ⟨rfl, rfl⟩ (by rw [hR]; decide) (Nat.le_of_ble_eq_true rfl) dJ0_indexOf_7cf53_14 (by rw [hR]; decide) (fun r_3 h_4 => ?_)
  refine g_topi (y := 6) h_4 ?_
  refine g_callSiP C (c0_J1_indexOf_4cfef _ _ _ _ _ _ _) tw1300 tw1301 tw31 tw1302 rfl ⟨by decide +kernel, by decide +kernel, rfl⟩ ⟨rfl, rfl⟩ (by rw [hR]; decide) (Nat.le_of_ble_eq_true rfl) dJ0_indexOf_7cf53_17 (by rw [hR]; decide) (fun r_5 h_6 => ?_)
  refine g_goto C dJ0_indexOf_7cf53_20 (tgt := 36) (by decide) ?_
  refine g_iretP C hr hQ (by decide) (by decide) dJ0_indexOf_7cf53_36 ?_
  assumption

set_option maxHeartbeats 400000 in
/-- String.indexOf -/
theorem c0_J0_indexOf_0f7a4 (l : Launch) (D : va_G) (cy : Nat → ClassId) (A : Nat → Prop) (sad : Nat → Nat) (Wp : Heap → Prop) (p1 : Int32) : Met l yJ0_indexOf_0f7a4 (wsA yJ0_indexOf_0f7a4 cJ0_indexOf_0f7a4 2 (some .int)) ({ frames := 3, cells := 0, slots := 0, locals := 70 }) (PcH D cy A sad Wp [.ref (sad 1000), .int p1]) (QiP A Wp (fun r => r = kz kndB 6 p1)) 0 0 A := by
  refine met_ofP (fun _ => 0) [(0, .ref (sad 1000)), (1, .int p1)] (by decide +kernel) (Nat.le_of_ble_eq_true rfl) rfl ?_
  intro G C hl hR hL hD hcy hA had hsa hr hQ
  subst hD hcy hA hsa hl
  refine g_aload_n C dJ0_indexOf_0f7a4_0 0 rfl ?_
  refine g_iload_n C dJ0_indexOf_0f7a4_1 1 rfl ?_
  refine g_iconst C dJ0_indexOf_0f7a4_2 (v := 0) (by decide) ?_
  refine g_callKiP0 C rfl (c0_J0_indexOf_7cf53 _ _ _ _ _ _ _) tw1295 tw1296 tw1297 tw14 tw1298 rfl ⟨by decide +kernel, by decide +kernel, rfl⟩ ⟨rfl, rfl⟩ (by rw [hR]; decide) (Nat.le_of_ble_eq_true rfl) dJ0_indexOf_0f7a4_3 (by rw [hR]; decide) (fun r_1 h_2 => ?_)
  refine g_iretP C hr hQ (by decide) (by decide) dJ0_indexOf_0f7a4_6 ?_
  assumption

set_option maxHeartbeats 400000 in
/-- StringLatin1.charAt -/
theorem c0_J1_charAt_3b067 (l : Launch) (D : va_G) (cy : Nat → ClassId) (A : Nat → Prop) (sad : Nat → Nat) (Wp : Heap → Prop) (i : Nat) (hi : i < 6) : Met l yJ1_charAt_3b067 (wsA yJ1_charAt_3b067 cJ1_charAt_3b067 2 (some .char)) ({ frames := 2, cells := 0, slots := 0, locals := 43 }) (PcH D cy A sad Wp [.ref (sad 1001), .int (nI i)]) (QiP A Wp (fun r => r = kndB.getD i 0)) 0 0 A := by
  refine met_ofP (fun _ => 0) [(0, .ref (sad 1001)), (1, .int (nI i))] (by decide +kernel) (Nat.le_of_ble_eq_true rfl) rfl ?_
  intro G C hl hR hL hD hcy hA had hsa hr hQ
  subst hD hcy hA hsa hl
  refine g_iload_n C dJ1_charAt_3b067_0 1 rfl ?_
  refine g_aload_n C dJ1_charAt_3b067_1 0 rfl ?_
  refine g_klen0 C dJ1_charAt_3b067_2 ?_
  refine g_callSvP C (c_J0_checkIndex_df160 _ _ _ _ _ _ i 6 hi (by decide)) tw1128 tw881 tw14 tw882 rfl ⟨by decide +kernel, by decide +kernel, rfl⟩ ⟨rfl, rfl⟩ (by rw [hR]; decide) (Nat.le_of_ble_eq_true rfl) dJ1_charAt_3b067_3 (by rw [hR]; decide) (?_)
  refine g_aload_n C dJ1_charAt_3b067_6 0 rfl ?_
  refine g_iload_n C dJ1_charAt_3b067_7 1 rfl ?_
  refine g_kld0 C hi dJ1_charAt_3b067_8 ?_
  refine g_sipush C dJ1_charAt_3b067_9 (v := 255) (by decide) ?_
  refine g_iand C dJ1_charAt_3b067_12 ?_
  refine g_i2c C dJ1_charAt_3b067_13 ?_
  refine g_topi (kb0 i hi).1 ?_
  refine g_zretP C hr (kb0 i hi).2 hQ (by decide) (by decide) dJ1_charAt_3b067_14 ?_
  rfl

set_option maxHeartbeats 400000 in
/-- String.charAt -/
theorem c0_J0_charAt_5068e (l : Launch) (D : va_G) (cy : Nat → ClassId) (A : Nat → Prop) (sad : Nat → Nat) (Wp : Heap → Prop) (i : Nat) (hi : i < 6) : Met l yJ0_charAt_5068e (wsA yJ0_charAt_5068e cJ0_charAt_5068e 2 (some .char)) ({ frames := 3, cells := 0, slots := 0, locals := 64 }) (PcH D cy A sad Wp [.ref (sad 1000), .int (nI i)]) (QiP A Wp (fun r => r = kndB.getD i 0)) 0 0 A := by
  refine met_ofP (fun _ => 0) [(0, .ref (sad 1000)), (1, .int (nI i))] (by decide +kernel) (Nat.le_of_ble_eq_true rfl) rfl ?_
  intro G C hl hR hL hD hcy hA had hsa hr hQ
  subst hD hcy hA hsa hl
  refine g_aload_n C dJ0_charAt_5068e_0 0 rfl ?_
  refine g_callKiP0 C rfl (c0_J0_isLatin1_aae02 _ _ _ _ _ _) tw1120 tw1121 tw1122 tw14 tw1123 rfl ⟨by decide +kernel, by decide +kernel, rfl⟩ ⟨rfl, rfl⟩ (by rw [hR]; decide) (Nat.le_of_ble_eq_true rfl) dJ0_charAt_5068e_1 (by rw [hR]; decide) (fun r_1 h_2 => ?_)
  refine g_topi (y := 1) h_2 ?_
  refine g_if_eq C dJ0_charAt_5068e_4 (tgt := 16) (by decide) (fun c_4 => absurd c_4 (by decide)) (fun c_4 => ?_)
  refine g_aload_n C dJ0_charAt_5068e_7 0 rfl ?_
  refine g_kval0 C tw1282 dJ0_charAt_5068e_8 ?_
  refine g_iload_n C dJ0_charAt_5068e_11 1 rfl ?_
  refine g_callSiP C (c0_J1_charAt_3b067 _ _ _ _ _ _ i hi) tw1125 tw1126 tw31 tw1127 rfl ⟨by decide +kernel, by decide +kernel, rfl⟩ ⟨rfl, rfl⟩ (by rw [hR]; decide) (Nat.le_of_ble_eq_true rfl) dJ0_charAt_5068e_12 (by rw [hR]; decide) (fun r_3 h_4 => ?_)
  refine g_zretP C hr (by subst h_4; exact (kb0 i hi).2) hQ (by decide) (by decide) dJ0_charAt_5068e_15 ?_
  exact h_4

set_option maxHeartbeats 400000 in
/-- String.coder -/
theorem c2_J0_coder_7d493 (l : Launch) (D : va_G) (cy : Nat → ClassId) (A : Nat → Prop) (sad : Nat → Nat) (Wp : Heap → Prop) : Met l yJ0_coder_7d493 (wsA yJ0_coder_7d493 cJ0_coder_7d493 1 (some .byte)) ({ frames := 0, cells := 0, slots := 0, locals := 0 }) (PcH D cy A sad Wp [.ref (sad 1002)]) (QiP A Wp (fun r => r = 0)) 0 0 A := by
  refine met_ofP (fun _ => 0) [(0, .ref (sad 1002))] (by decide +kernel) (Nat.le_of_ble_eq_true rfl) rfl ?_
  intro G C hl hR hL hD hcy hA had hsa hr hQ
  subst hD hcy hA hsa hl
  refine g_compact C tw1124 dJ0_coder_7d493_0 ?_
  refine g_if_eq C dJ0_coder_7d493_3 (tgt := 13) (by decide) (fun c_3 => absurd c_3 (by decide)) (fun c_3 => ?_)
  refine g_aload_n C dJ0_coder_7d493_6 0 rfl ?_
  refine g_kcod2 C tw1283 dJ0_coder_7d493_7 ?_
  refine g_goto C dJ0_coder_7d493_10 (tgt := 14) (by decide) ?_
  refine g_zretP C hr (by decide) hQ (by decide) (by decide) dJ0_coder_7d493_14 ?_
  rfl

set_option maxHeartbeats 400000 in
/-- String.isLatin1 -/
theorem c2_J0_isLatin1_aae02 (l : Launch) (D : va_G) (cy : Nat → ClassId) (A : Nat → Prop) (sad : Nat → Nat) (Wp : Heap → Prop) : Met l yJ0_isLatin1_aae02 (wsA yJ0_isLatin1_aae02 cJ0_isLatin1_aae02 1 (some .boolean)) ({ frames := 0, cells := 0, slots := 0, locals := 0 }) (PcH D cy A sad Wp [.ref (sad 1002)]) (QiP A Wp (fun r => r = 1)) 0 0 A := by
  refine met_ofP (fun _ => 0) [(0, .ref (sad 1002))] (by decide +kernel) (Nat.le_of_ble_eq_true rfl) rfl ?_
  intro G C hl hR hL hD hcy hA had hsa hr hQ
  subst hD hcy hA hsa hl
  refine g_compact C tw1124 dJ0_isLatin1_aae02_0 ?_
  refine g_if_eq C dJ0_isLatin1_aae02_3 (tgt := 17) (by decide) (fun c_3 => absurd c_3 (by decide)) (fun c_3 => ?_)
  refine g_aload_n C dJ0_isLatin1_aae02_6 0 rfl ?_
  refine g_kcod2 C tw1283 dJ0_isLatin1_aae02_7 ?_
  refine g_if_ne C dJ0_isLatin1_aae02_10 (tgt := 17) (by decide) (fun c_10 => absurd c_10 (by decide)) (fun c_10 => ?_)
  refine g_iconst C dJ0_isLatin1_aae02_13 (v := 1) (by decide) ?_
  refine g_goto C dJ0_isLatin1_aae02_14 (tgt := 18) (by decide) ?_
  refine g_zretP C hr (by decide) hQ (by decide) (by decide) dJ0_isLatin1_aae02_18 ?_
  rfl

set_option maxHeartbeats 400000 in
/-- String.length -/
theorem c2_J0_length_8abf5 (l : Launch) (D : va_G) (cy : Nat → ClassId) (A : Nat → Prop) (sad : Nat → Nat) (Wp : Heap → Prop) : Met l yJ0_length_8abf5 (wsA yJ0_length_8abf5 cJ0_length_8abf5 1 (some .int)) ({ frames := 1, cells := 0, slots := 0, locals := 20 }) (PcH D cy A sad Wp [.ref (sad 1002)]) (QiP A Wp (fun r => r = 8)) 0 0 A := by
  refine met_ofP (fun _ => 0) [(0, .ref (sad 1002))] (by decide +kernel) (Nat.le_of_ble_eq_true rfl) rfl ?_
  intro G C hl hR hL hD hcy hA had hsa hr hQ
  subst hD hcy hA hsa hl
  refine g_aload_n C dJ0_length_8abf5_0 0 rfl ?_
  refine g_kval2 C tw1282 dJ0_length_8abf5_1 ?_
  refine g_klen2 C dJ0_length_8abf5_4 ?_
  refine g_aload_n C dJ0_length_8abf5_5 0 rfl ?_
  refine g_callKiP2 C rfl (c2_J0_coder_7d493 _ _ _ _ _ _) tw1251 tw1252 tw1253 tw14 tw1254 rfl ⟨by decide +kernel, by decide +kernel, rfl⟩ ⟨rfl, rfl⟩ (by rw [hR]; decide) (Nat.le_of_ble_eq_true rfl) dJ0_length_8abf5_6 (by rw [hR]; decide) (fun r_1 h_2 => ?_)
  refine g_topi (y := 0) h_2 ?_
  refine g_ishr C dJ0_length_8abf5_9 ?_
  refine g_iretP C hr hQ (by decide) (by decide) dJ0_length_8abf5_10 ?_
  rfl

set_option maxHeartbeats 400000 in
/-- StringLatin1.canEncode -/
theorem c2_J1_canEncode_9a6ad (l : Launch) (D : va_G) (cy : Nat → ClassId) (A : Nat → Prop) (sad : Nat → Nat) (Wp : Heap → Prop) (p0 : Int32) : Met l yJ1_canEncode_9a6ad (wsA yJ1_canEncode_9a6ad cJ1_canEncode_9a6ad 1 (some .boolean)) ({ frames := 0, cells := 0, slots := 0, locals := 0 }) (PcH D cy A sad Wp [.int p0]) (QiP A Wp (fun r => r = inr 0 255 p0)) 0 0 A := by
  refine met_ofP (fun _ => 0) [(0, .int p0)] (by decide +kernel) (Nat.le_of_ble_eq_true rfl) rfl ?_
  intro G C hl hR hL hD hcy hA had hsa hr hQ
  subst hD hcy hA hsa hl
  refine g_iload_n C dJ1_canEncode_9a6ad_0 0 rfl ?_
  refine g_if_lt C dJ1_canEncode_9a6ad_1 (tgt := 15) (by decide) (fun c_1 => ?_) (fun c_1 => ?_)
  · try simp only [sa_ap, si_ap, reduceIte, Nat.reduceEqDiff, up_us, lg_cmp_lt, lg_cmp_gt, lg_cmp_le, lg_cmp_ge] at c_1
    refine g_iconst C dJ1_canEncode_9a6ad_15 (v := 0) (by decide) ?_
    refine g_zretP C hr (by decide) hQ (by decide) (by decide) dJ1_canEncode_9a6ad_16 ?_
    exact (by first | with_reducible rfl | (first | with_reducible rfl | (simp only [sa_ap, si_ap, si_sa, sa_sa, sa_3, sa_4, sa_5, sa_6, sa_7, sa_8, inr, c_1]; done) | (simp [sa_ap, si_ap, si_sa, sa_sa, sa_3, sa_4, sa_5, sa_6, sa_7, sa_8, inr, c_1]; done)))
  · try simp only [sa_ap, si_ap, reduceIte, Nat.reduceEqDiff, up_us, lg_cmp_lt, lg_cmp_gt, lg_cmp_le, lg_cmp_ge] at c_1
    refine g_iload_n C dJ1_canEncode_9a6ad_4 0 rfl ?_
    refine g_sipush C dJ1_canEncode_9a6ad_5 (v := 255) (by decide) ?_
    refine g_icmp_gt C dJ1_canEncode_9a6ad_8 (tgt := 15) (by decide) (fun c_8 => ?_) (fun c_8 => ?_)
    · try simp only [sa_ap, si_ap, reduceIte, Nat.reduceEqDiff, up_us, lg_cmp_lt, lg_cmp_gt, lg_cmp_le, lg_cmp_ge] at c_8
      refine g_iconst C dJ1_canEncode_9a6ad_15 (v := 0) (by decide) ?_
      refine g_zretP C hr (by decide) hQ (by decide) (by decide) dJ1_canEncode_9a6ad_16 ?_
      exact (by first | with_reducible rfl | (first | with_reducible rfl | (simp only [sa_ap, si_ap, si_sa, sa_sa, sa_3, sa_4, sa_5, sa_6, sa_7, sa_8, inr, c_1, c_8]; done) | (simp [sa_ap, si_ap, si_sa, sa_sa, sa_3, sa_4, sa_5, sa_6, sa_7, sa_8, inr, c_1, c_8]; done)))
    · try simp only [sa_ap, si_ap, reduceIte, Nat.reduceEqDiff, up_us, lg_cmp_lt, lg_cmp_gt, lg_cmp_le, lg_cmp_ge] at c_8
      refine g_iconst C dJ1_canEncode_9a6ad_11 (v := 1) (by decide) ?_
      refine g_goto C dJ1_canEncode_9a6ad_12 (tgt := 16) (by decide) ?_
      refine g_zretP C hr (by decide) hQ (by decide) (by decide) dJ1_canEncode_9a6ad_16 ?_
      exact (by first | with_reducible rfl | (first | with_reducible rfl | (simp only [sa_ap, si_ap, si_sa, sa_sa, sa_3, sa_4, sa_5, sa_6, sa_7, sa_8, inr, c_1, c_8]; done) | (simp [sa_ap, si_ap, si_sa, sa_sa, sa_3, sa_4, sa_5, sa_6, sa_7, sa_8, inr, c_1, c_8]; done)))

set_option maxHeartbeats 400000 in
/-- StringLatin1.indexOfChar -/
theorem c2_J1_indexOfChar_4cfef (l : Launch) (D : va_G) (cy : Nat → ClassId) (A : Nat → Prop) (sad : Nat → Nat) (Wp : Heap → Prop) (p1 : Int32) : Met l yJ1_indexOfChar_4cfef (wsA yJ1_indexOfChar_4cfef cJ1_indexOfChar_4cfef 6 (some .int)) ({ frames := 0, cells := 0, slots := 0, locals := 0 }) (PcH D cy A sad Wp [.ref (sad 1003), .int p1, .int 0, .int 8]) (QiP A Wp (fun r => r = kx ltrB p1.toInt8.toInt32 8 0)) 0 0 A := by
  refine met_ofP (fun _ => 0) [(0, .ref (sad 1003)), (1, .int p1), (2, .int 0), (3, .int 8)] (by decide +kernel) (Nat.le_of_ble_eq_true rfl) rfl ?_
  intro G C hl hR hL hD hcy hA had hsa hr hQ
  subst hD hcy hA hsa hl
  refine g_iload_n C dJ1_indexOfChar_4cfef_0 1 rfl ?_
  refine g_i2b C dJ1_indexOfChar_4cfef_1 ?_
  refine g_topi rfl ?_
  refine g_istore C dJ1_indexOfChar_4cfef_2 (L' := [(4, .int p1.toInt8.toInt32), (0, .ref (gsa G 1003)), (1, .int p1), (2, .int 0), (3, .int 8)]) rfl (by rw [hL]; decide) ?_
  refine g_iload_n C dJ1_indexOfChar_4cfef_4 3 rfl ?_
  refine g_istore C dJ1_indexOfChar_4cfef_5 (L' := [(5, .int 0), (4, .int p1.toInt8.toInt32), (0, .ref (gsa G 1003)), (1, .int p1), (2, .int 0), (3, .int 8)]) rfl (by rw [hL]; decide) ?_
  have lp7 : ∀ (n i : Nat) (hi : i + n = 8) (hf : kx ltrB p1.toInt8.toInt32 8 0 = kx ltrB p1.toInt8.toInt32 n i), GH G (Wp) [(0, .ref (gsa G 1003)), (1, .int p1), (2, .int 0), (3, .int 8), (4, .int p1.toInt8.toInt32), (5, .int (nI i))] 0 0 7 [] := by
    intro n
    induction n with
    | zero =>
      intro i hi hf
      obtain rfl : i = 8 := by omega
      refine g_iload C dJ1_indexOfChar_4cfef_7 5 rfl ?_
      refine g_iload_n C dJ1_indexOfChar_4cfef_9 3 rfl ?_
      refine g_icmp_ge C dJ1_indexOfChar_4cfef_10 (tgt := 31) (by decide) (fun c_10 => ?_) (fun c_10 => absurd (nI_le (a := 8) (b := 8) (Nat.le_refl _) (by omega)) c_10)
      refine g_iconst C dJ1_indexOfChar_4cfef_31 (v := (-1)) (by decide) ?_
      refine g_iretP C hr hQ (by decide) (by decide) dJ1_indexOfChar_4cfef_32 ?_
      exact hf.symm
    | succ n ih =>
      intro i hi hf
      refine g_iload C dJ1_indexOfChar_4cfef_7 5 rfl ?_
      refine g_iload_n C dJ1_indexOfChar_4cfef_9 3 rfl ?_
      refine g_icmp_ge C dJ1_indexOfChar_4cfef_10 (tgt := 31) (by decide) (fun c_10 => absurd c_10 (nI_ge (a := i) (b := 8) (by omega) (by omega))) (fun c_10 => ?_)
      refine g_aload_n C dJ1_indexOfChar_4cfef_13 0 rfl ?_
      refine g_iload C dJ1_indexOfChar_4cfef_14 5 rfl ?_
      refine g_kld2 C (by omega) dJ1_indexOfChar_4cfef_16 ?_
      refine g_iload C dJ1_indexOfChar_4cfef_17 4 rfl ?_
      refine g_icmp_ne C dJ1_indexOfChar_4cfef_19 (tgt := 25) (by decide) (fun c_19 => ?_) (fun c_19 => ?_)
      · try simp only [sa_ap, si_ap, reduceIte, Nat.reduceEqDiff, up_us, lg_cmp_lt, lg_cmp_gt, lg_cmp_le, lg_cmp_ge] at c_19
        refine g_iinc C dJ1_indexOfChar_4cfef_25 5 rfl (v := nI (i + 1)) (nI_1 _) (L' := [(5, .int (nI (i + 1))), (0, .ref (gsa G 1003)), (1, .int p1), (2, .int 0), (3, .int 8), (4, .int p1.toInt8.toInt32)]) rfl (by rw [hL]; decide) ?_
        refine g_goto C dJ1_indexOfChar_4cfef_28 (tgt := 7) (by decide) ?_
        exact g_sub [1, 2, 3, 4, 5, 0] rfl (ih (i + 1) (by omega) (by rw [hf]; exact if_neg c_19))
      · try simp only [sa_ap, si_ap, reduceIte, Nat.reduceEqDiff, up_us, lg_cmp_lt, lg_cmp_gt, lg_cmp_le, lg_cmp_ge] at c_19
        refine g_iload C dJ1_indexOfChar_4cfef_22 5 rfl ?_
        refine g_iretP C hr hQ (by decide) (by decide) dJ1_indexOfChar_4cfef_24 ?_
        exact (hf.trans (if_pos c_19)).symm
  exact g_sub [2, 3, 4, 5, 1, 0] rfl (lp7 (8) 0 (by omega) rfl)

set_option maxHeartbeats 400000 in
/-- StringLatin1.indexOf -/
theorem c2_J1_indexOf_4cfef (l : Launch) (D : va_G) (cy : Nat → ClassId) (A : Nat → Prop) (sad : Nat → Nat) (Wp : Heap → Prop) (p1 : Int32) : Met l yJ1_indexOf_4cfef (wsA yJ1_indexOf_4cfef cJ1_indexOf_4cfef 4 (some .int)) ({ frames := 1, cells := 0, slots := 0, locals := 25 }) (PcH D cy A sad Wp [.ref (sad 1003), .int p1, .int 0, .int 8]) (QiP A Wp (fun r => r = kz ltrB 8 p1)) 0 0 A := by
  refine met_ofP (fun _ => 0) [(0, .ref (sad 1003)), (1, .int p1), (2, .int 0), (3, .int 8)] (by decide +kernel) (Nat.le_of_ble_eq_true rfl) rfl ?_
  intro G C hl hR hL hD hcy hA had hsa hr hQ
  subst hD hcy hA hsa hl
  refine g_iload_n C dJ1_indexOf_4cfef_0 1 rfl ?_
  refine g_callSiP C (c2_J1_canEncode_9a6ad _ _ _ _ _ _ _) tw1303 tw1304 tw31 tw1305 rfl ⟨by decide +kernel, by decide +kernel, rfl⟩ ⟨rfl, rfl⟩ (by rw [hR]; decide) (Nat.le_of_ble_eq_true rfl) dJ1_indexOf_4cfef_1 (by rw [hR]; decide) (fun r_1 h_2 => ?_)
  refine g_if_ne C dJ1_indexOf_4cfef_4 (tgt := 9) (by decide) (fun c_4 => ?_) (fun c_4 => ?_)
  · try simp only [sa_ap, si_ap, reduceIte, Nat.reduceEqDiff, up_us, lg_cmp_lt, lg_cmp_gt, lg_cmp_le, lg_cmp_ge] at c_4
    refine g_iload_n C dJ1_indexOf_4cfef_9 2 rfl ?_
    refine g_iconst C dJ1_indexOf_4cfef_10 (v := 0) (by decide) ?_
    refine g_max C dJ1_indexOf_4cfef_11 tw1306 (Nat.le_of_ble_eq_true rfl) (by rw [hR]; decide) ?_
    refine g_topi (y := tk_max _ _) rfl ?_
    refine g_topi (y := 0) (by decide) ?_
    refine g_istore_n C dJ1_indexOf_4cfef_14 (L' := [(2, .int 0), (0, .ref (gsa G 1003)), (1, .int p1), (3, .int 8)]) rfl (by rw [hL]; decide) ?_
    refine g_iload_n C dJ1_indexOf_4cfef_15 3 rfl ?_
    refine g_aload_n C dJ1_indexOf_4cfef_16 1 rfl ?_
    refine g_klen2 C dJ1_indexOf_4cfef_17 ?_
    refine g_min C dJ1_indexOf_4cfef_18 tw1307 (Nat.le_of_ble_eq_true rfl) (by rw [hR]; decide) ?_
    refine g_topi (y := tk_min _ _) rfl ?_
    refine g_topi (y := 8) (by decide) ?_
    refine g_istore_n C dJ1_indexOf_4cfef_21 (L' := [(3, .int 8), (2, .int 0), (0, .ref (gsa G 1003)), (1, .int p1)]) rfl (by rw [hL]; decide) ?_
    refine g_iload_n C dJ1_indexOf_4cfef_22 1 rfl ?_
    refine g_iload_n C dJ1_indexOf_4cfef_23 0 rfl ?_
    refine g_icmp_lt C dJ1_indexOf_4cfef_24 (tgt := 29) (by decide) (fun c_24 => ?_) (fun c_24 => absurd (by decide) c_24)
    refine g_aload_n C dJ1_indexOf_4cfef_29 2 rfl ?_
    refine g_iload_n C dJ1_indexOf_4cfef_30 3 rfl ?_
    refine g_iload_n C dJ1_indexOf_4cfef_31 1 rfl ?_
    refine g_iload_n C dJ1_indexOf_4cfef_32 0 rfl ?_
    refine g_callSiP C (c2_J1_indexOfChar_4cfef _ _ _ _ _ _ _) tw1308 tw1309 tw31 tw1310 rfl ⟨by decide +kernel, by decide +kernel, rfl⟩ ⟨rfl, rfl⟩ (by rw [hR]; decide) (Nat.le_of_ble_eq_true rfl) dJ1_indexOf_4cfef_33 (by rw [hR]; decide) (fun r_3 h_4 => ?_)
    refine g_iretP C hr hQ (by decide) (by decide) dJ1_indexOf_4cfef_36 ?_
    exact h_4.trans (if_neg (by rw [← h_2]; exact c_4)).symm
  · try simp only [sa_ap, si_ap, reduceIte, Nat.reduceEqDiff, up_us, lg_cmp_lt, lg_cmp_gt, lg_cmp_le, lg_cmp_ge] at c_4
    refine g_iconst C dJ1_indexOf_4cfef_7 (v := (-1)) (by decide) ?_
    refine g_iretP C hr hQ (by decide) (by decide) dJ1_indexOf_4cfef_8 ?_
    exact (if_pos (by rw [← h_2]; exact c_4)).symm

set_option maxHeartbeats 400000 in
/-- String.indexOf -/
theorem c2_J0_indexOf_7cf53 (l : Launch) (D : va_G) (cy : Nat → ClassId) (A : Nat → Prop) (sad : Nat → Nat) (Wp : Heap → Prop) (p1 : Int32) : Met l yJ0_indexOf_7cf53 (wsA yJ0_indexOf_7cf53 cJ0_indexOf_7cf53 3 (some .int)) ({ frames := 2, cells := 0, slots := 0, locals := 48 }) (PcH D cy A sad Wp [.ref (sad 1002), .int p1, .int 0]) (QiP A Wp (fun r => r = kz ltrB 8 p1)) 0 0 A := by
  refine met_ofP (fun _ => 0) [(0, .ref (sad 1002)), (1, .int p1), (2, .int 0)] (by decide +kernel) (Nat.le_of_ble_eq_true rfl) rfl ?_
  intro G C hl hR hL hD hcy hA had hsa hr hQ
  subst hD hcy hA hsa hl
  refine g_aload_n C dJ0_indexOf_7cf53_0 0 rfl ?_
  refine g_callKiP2 C rfl (c2_J0_isLatin1_aae02 _ _ _ _ _ _) tw1120 tw1121 tw1122 tw14 tw1123 rfl ⟨by decide +kernel, by decide +kernel, rfl⟩ ⟨rfl, rfl⟩ (by rw [hR]; decide) (Nat.le_of_ble_eq_true rfl) dJ0_indexOf_7cf53_1 (by rw [hR]; decide) (fun r_1 h_2 => ?_)
  refine g_topi (y := 1) h_2 ?_
  refine g_if_eq C dJ0_indexOf_7cf53_4 (tgt := 23) (by decide) (fun c_4 => absurd c_4 (by decide)) (fun c_4 => ?_)
  refine g_aload_n C dJ0_indexOf_7cf53_7 0 rfl ?_
  refine g_kval2 C tw1282 dJ0_indexOf_7cf53_8 ?_
  refine g_iload_n C dJ0_indexOf_7cf53_11 1 rfl ?_
  refine g_iload_n C dJ0_indexOf_7cf53_12 2 rfl ?_
  refine g_aload_n C dJ0_indexOf_7cf53_13 0 rfl ?_
  refine g_callKiP2 C rfl (c2_J0_length_8abf5 _ _ _ _ _ _) tw1299 tw1248 tw1249 tw14 tw1250 rfl ⟨by decide +kernel, by decide +kernel, rfl⟩ ⟨rfl, rfl⟩ (by rw [hR]; decide) (Nat.le_of_ble_eq_true rfl) dJ0_indexOf_7cf53_14 (by rw [hR]; decide) (fun r_3 h_4 => ?_)
  refine g_topi (y := 8) h_4 ?_
  refine g_callSiP C (c2_J1_indexOf_4cfef _ _ _ _ _ _ _) tw1300 tw1301 tw31 tw1302 rfl ⟨by decide +kernel, by decide +kernel, rfl⟩ ⟨rfl, rfl⟩ (by rw [hR]; decide) (Nat.le_of_ble_eq_true rfl) dJ0_indexOf_7cf53_17 (by rw [hR]; decide) (fun r_5 h_6 => ?_)
  refine g_goto C dJ0_indexOf_7cf53_20 (tgt := 36) (by decide) ?_
  refine g_iretP C hr hQ (by decide) (by decide) dJ0_indexOf_7cf53_36 ?_
  assumption

set_option maxHeartbeats 400000 in
/-- String.indexOf -/
theorem c2_J0_indexOf_0f7a4 (l : Launch) (D : va_G) (cy : Nat → ClassId) (A : Nat → Prop) (sad : Nat → Nat) (Wp : Heap → Prop) (p1 : Int32) : Met l yJ0_indexOf_0f7a4 (wsA yJ0_indexOf_0f7a4 cJ0_indexOf_0f7a4 2 (some .int)) ({ frames := 3, cells := 0, slots := 0, locals := 70 }) (PcH D cy A sad Wp [.ref (sad 1002), .int p1]) (QiP A Wp (fun r => r = kz ltrB 8 p1)) 0 0 A := by
  refine met_ofP (fun _ => 0) [(0, .ref (sad 1002)), (1, .int p1)] (by decide +kernel) (Nat.le_of_ble_eq_true rfl) rfl ?_
  intro G C hl hR hL hD hcy hA had hsa hr hQ
  subst hD hcy hA hsa hl
  refine g_aload_n C dJ0_indexOf_0f7a4_0 0 rfl ?_
  refine g_iload_n C dJ0_indexOf_0f7a4_1 1 rfl ?_
  refine g_iconst C dJ0_indexOf_0f7a4_2 (v := 0) (by decide) ?_
  refine g_callKiP2 C rfl (c2_J0_indexOf_7cf53 _ _ _ _ _ _ _) tw1295 tw1296 tw1297 tw14 tw1298 rfl ⟨by decide +kernel, by decide +kernel, rfl⟩ ⟨rfl, rfl⟩ (by rw [hR]; decide) (Nat.le_of_ble_eq_true rfl) dJ0_indexOf_0f7a4_3 (by rw [hR]; decide) (fun r_1 h_2 => ?_)
  refine g_iretP C hr hQ (by decide) (by decide) dJ0_indexOf_0f7a4_6 ?_
  assumption

set_option maxHeartbeats 400000 in
/-- StringLatin1.charAt -/
theorem c2_J1_charAt_3b067 (l : Launch) (D : va_G) (cy : Nat → ClassId) (A : Nat → Prop) (sad : Nat → Nat) (Wp : Heap → Prop) (i : Nat) (hi : i < 8) : Met l yJ1_charAt_3b067 (wsA yJ1_charAt_3b067 cJ1_charAt_3b067 2 (some .char)) ({ frames := 2, cells := 0, slots := 0, locals := 43 }) (PcH D cy A sad Wp [.ref (sad 1003), .int (nI i)]) (QiP A Wp (fun r => r = ltrB.getD i 0)) 0 0 A := by
  refine met_ofP (fun _ => 0) [(0, .ref (sad 1003)), (1, .int (nI i))] (by decide +kernel) (Nat.le_of_ble_eq_true rfl) rfl ?_
  intro G C hl hR hL hD hcy hA had hsa hr hQ
  subst hD hcy hA hsa hl
  refine g_iload_n C dJ1_charAt_3b067_0 1 rfl ?_
  refine g_aload_n C dJ1_charAt_3b067_1 0 rfl ?_
  refine g_klen2 C dJ1_charAt_3b067_2 ?_
  refine g_callSvP C (c_J0_checkIndex_df160 _ _ _ _ _ _ i 8 hi (by decide)) tw1128 tw881 tw14 tw882 rfl ⟨by decide +kernel, by decide +kernel, rfl⟩ ⟨rfl, rfl⟩ (by rw [hR]; decide) (Nat.le_of_ble_eq_true rfl) dJ1_charAt_3b067_3 (by rw [hR]; decide) (?_)
  refine g_aload_n C dJ1_charAt_3b067_6 0 rfl ?_
  refine g_iload_n C dJ1_charAt_3b067_7 1 rfl ?_
  refine g_kld2 C hi dJ1_charAt_3b067_8 ?_
  refine g_sipush C dJ1_charAt_3b067_9 (v := 255) (by decide) ?_
  refine g_iand C dJ1_charAt_3b067_12 ?_
  refine g_i2c C dJ1_charAt_3b067_13 ?_
  refine g_topi (kb2 i hi).1 ?_
  refine g_zretP C hr (kb2 i hi).2 hQ (by decide) (by decide) dJ1_charAt_3b067_14 ?_
  rfl

set_option maxHeartbeats 400000 in
/-- String.charAt -/
theorem c2_J0_charAt_5068e (l : Launch) (D : va_G) (cy : Nat → ClassId) (A : Nat → Prop) (sad : Nat → Nat) (Wp : Heap → Prop) (i : Nat) (hi : i < 8) : Met l yJ0_charAt_5068e (wsA yJ0_charAt_5068e cJ0_charAt_5068e 2 (some .char)) ({ frames := 3, cells := 0, slots := 0, locals := 64 }) (PcH D cy A sad Wp [.ref (sad 1002), .int (nI i)]) (QiP A Wp (fun r => r = ltrB.getD i 0)) 0 0 A := by
  refine met_ofP (fun _ => 0) [(0, .ref (sad 1002)), (1, .int (nI i))] (by decide +kernel) (Nat.le_of_ble_eq_true rfl) rfl ?_
  intro G C hl hR hL hD hcy hA had hsa hr hQ
  subst hD hcy hA hsa hl
  refine g_aload_n C dJ0_charAt_5068e_0 0 rfl ?_
  refine g_callKiP2 C rfl (c2_J0_isLatin1_aae02 _ _ _ _ _ _) tw1120 tw1121 tw1122 tw14 tw1123 rfl ⟨by decide +kernel, by decide +kernel, rfl⟩ ⟨rfl, rfl⟩ (by rw [hR]; decide) (Nat.le_of_ble_eq_true rfl) dJ0_charAt_5068e_1 (by rw [hR]; decide) (fun r_1 h_2 => ?_)
  refine g_topi (y := 1) h_2 ?_
  refine g_if_eq C dJ0_charAt_5068e_4 (tgt := 16) (by decide) (fun c_4 => absurd c_4 (by decide)) (fun c_4 => ?_)
  refine g_aload_n C dJ0_charAt_5068e_7 0 rfl ?_
  refine g_kval2 C tw1282 dJ0_charAt_5068e_8 ?_
  refine g_iload_n C dJ0_charAt_5068e_11 1 rfl ?_
  refine g_callSiP C (c2_J1_charAt_3b067 _ _ _ _ _ _ i hi) tw1125 tw1126 tw31 tw1127 rfl ⟨by decide +kernel, by decide +kernel, rfl⟩ ⟨rfl, rfl⟩ (by rw [hR]; decide) (Nat.le_of_ble_eq_true rfl) dJ0_charAt_5068e_12 (by rw [hR]; decide) (fun r_3 h_4 => ?_)
  refine g_zretP C hr (by subst h_4; exact (kb2 i hi).2) hQ (by decide) (by decide) dJ0_charAt_5068e_15 ?_
  exact h_4

