/-! texts in the fixed world -/
theorem Met.ex {l : Launch} {y : MethodName} {ws : List Cond} {rm : Room} {mc ms : Nat} {A : Nat → Prop} {Gh : Type} {P : Gh → Array Value → State → Prop} {Q : Gh → Array Value → State → Outcome → State → Prop} (h : ∀ i, Met l y ws rm (P i) (Q i) mc ms A) : Met l y ws rm (fun a s => ∃ i, P i a s) (fun a s o t => ∃ i, P i a s ∧ Q i a s o t) mc ms A := MetFree.mono (MetFree.ex h) (fun _ _ h => h) (fun _ _ _ _ _ h => h) (fun a s o t _ q => by
  obtain ⟨i, h1, h2, h3⟩ := q
  exact ⟨⟨i, h1, h2⟩, h3⟩)
theorem Met.pmono {l : Launch} {y : MethodName} {ws : List Cond} {rm : Room} {P P' : Array Value → State → Prop} {Q : Array Value → State → Outcome → State → Prop} {mc ms : Nat} {A : Nat → Prop} (h : Met l y ws rm P Q mc ms A) (hp : ∀ a s, P' a s → P a s) : Met l y ws rm P' Q mc ms A := MetFree.mono h hp (fun _ _ _ _ _ h => h) (fun _ _ _ _ _ q => q)
/-- a text longer by t; what it cost -/
def kApp (K : KF) (w : Nat) (t : List Nat) : KF :=
  (K.1, fun j => if j = w then ncap (K.2.2.1 w ++ t).length (K.2.1 w) else if j = 4 + w then K.2.1 (4 + w) + gcl (K.2.2.1 w ++ t).length (K.2.1 w) else if j = 6 + w then K.2.1 (6 + w) + gsl (K.2.2.1 w ++ t).length (K.2.1 w) else K.2.1 j,
    fun j => if j = w then K.2.2.1 w ++ t else K.2.2.1 j, K.2.2.2)
abbrev TxG (K : KF) : Type := {g : Nat × Nat × (Nat → Int32) × (Nat → Int32) // txOK (K.2.1 0) (K.2.2.1 0) g.2.2.1 ∧ txOK (K.2.1 1) (K.2.2.1 1) g.2.2.2}
theorem wL_ok0 (ad : Nat → Nat) (cy : Nat → ClassId) (b0 b1 : Nat) (f0 f1 : Nat → Int32) (X M : XF) (K : KF) : okP (wL ad cy b0 b1 f0 f1 X M K) 39 40 := ⟨by simp only [wL, List.length_cons]; omega, by simp only [wL, List.length_cons]; omega, by decide⟩
theorem wLT0 (ad : Nat → Nat) (cy : Nat → ClassId) (b0 b1 : Nat) (f0 f1 : Nat → Int32) (X M : XF) (K : KF) : wT (cy 3) (wL ad cy b0 b1 f0 f1 X M K) 39 40 (ad 39) b0 (K.2.2.1 0).length (K.2.1 0) f0 = wL ad cy b0 b1 f0 f1 X M K := rfl
theorem wLA0 (ad : Nat → Nat) (cy : Nat → ClassId) (b0 b1 q : Nat) (f0 f1 f' : Nat → Int32) (X M : XF) (K : KF) (t : List Nat) : wT (cy 3) (wL ad cy b0 b1 f0 f1 X M K) 39 40 (ad 39) q (K.2.2.1 0 ++ t).length (ncap (K.2.2.1 0 ++ t).length (K.2.1 0)) f' = wL ad cy q b1 f' f1 X M (kApp K 0 t) := rfl
theorem txOK.snoc {cap c : Nat} {t : List Nat} {f f' : Nat → Int32} (h : txOK cap t f) (hc : c < 128) (h16 : t.length + 1 ≤ 2 * cap + 2) (hf : sb_Fit f') (h1 : f' t.length = nI c) (h2 : ∀ j, j < t.length → f' j = f j) : txOK (ncap (t ++ [c]).length cap) (t ++ [c]) f' := by
  have el : (t ++ [c]).length = t.length + 1 := by simp
  refine ⟨by rw [el]; exact ncap_le h16, hf, fun j hj => ?_⟩
  rw [el] at hj
  by_cases e : j < t.length
  · have eg : (t ++ [c]).getD j 0 = t.getD j 0 := by rw [List.getD_eq_getElem?_getD, List.getD_eq_getElem?_getD, List.getElem?_append_left e]
    rw [eg, h2 j e]
    exact h.2.2 j e
  · obtain rfl : j = t.length := by omega
    have eg : (t ++ [c]).getD t.length 0 = c := by rw [List.getD_eq_getElem?_getD, List.getElem?_append_right (Nat.le_refl _), Nat.sub_self]; rfl
    rw [eg]
    exact ⟨hc, h1⟩

theorem c_apcW0 (l : Launch) (D : va_G) (cy : Nat → ClassId) (A : Nat → Prop) (ad sad : Nat → Nat) (X M : XF) (K : KF) (c : Nat) (hc : c < 128) (hcap : K.2.1 0 < 2 ^ 26) : Met l yJ4_append_cf468 (wsA yJ4_append_cf468 cJ4_append_cf468 2 (some (.object "java/lang/StringBuilder"))) ({ frames := 5, cells := gcl ((K.2.2.1 0).length + 1) (K.2.1 0), slots := gsl ((K.2.2.1 0).length + 1) (K.2.1 0), locals := 160 }) (PcW D cy A ad sad X M K [.ref (ad 39), .int (nI c)]) (va_Qr (fun (u : SS) => u = (X, M, kApp K 0 [c])) (fun u q t => (fun H => q = ad 39 ∧ WO D cy A ad u H) t.heap) A) (gcl ((K.2.2.1 0).length + 1) (K.2.1 0)) (gsl ((K.2.2.1 0).length + 1) (K.2.1 0)) A := by
  refine Met.qmono (Met.pmono (Met.ex (fun g : TxG K => c_apc l D cy A sad (wL ad cy g.1.1 g.1.2.1 g.1.2.2.1 g.1.2.2.2 X M K) 39 40 (ad 39) g.1.1 (K.2.2.1 0).length (K.2.1 0) g.1.2.2.1 (wL_ok0 _ _ _ _ _ _ _ _ _) hcap g.2.1.1 g.2.1.2.1 c hc)) (fun a s h => ?_)) (fun a s o t h => ?_)
  · obtain ⟨h1, h2, h3, h4, b0, b1, f0, f1, h5, h6, h7, h8⟩ := h
    exact ⟨⟨(b0, b1, f0, f1), h5, h6⟩, h1, h2, h3, h4, h7, h8⟩
  · obtain ⟨g, -, ⟨u, q, e1, hu, e2, hP, hD⟩, hF⟩ := h
    refine ⟨⟨(X, M, kApp K 0 [c]), q, e1, rfl, e2, ?_⟩, hF⟩
    have el : (K.2.2.1 0 ++ [c]).length = (K.2.2.1 0).length + 1 := by simp
    have hx : txOK (ncap (K.2.2.1 0 ++ [c]).length (K.2.1 0)) (K.2.2.1 0 ++ [c]) u.2 := g.2.1.snoc hc (by have := g.2.1.1; omega) hu.1 hu.2.1 hu.2.2
    rw [← el, wLA0] at hP hD
    exact ⟨u.1, g.1.2.1, u.2, g.1.2.2.2, hx, g.2.2, hP, hD⟩
def decL (v : Nat) : List Nat := (List.range (sb_dg v)).map (sb_dec v)
theorem decL_len (v : Nat) : (decL v).length = sb_dg v := by simp [decL]
theorem decL_get {v i : Nat} (h : i < sb_dg v) : (decL v).getD i 0 = 48 + v / 10 ^ (sb_dg v - 1 - i) % 10 := by
  rw [List.getD_eq_getElem?_getD]
  simp [decL, h, sb_dec]
theorem txOK.app {cap : Nat} {t s : List Nat} {f f' : Nat → Int32} (h : txOK cap t f) (hs : ∀ j, j < s.length → s.getD j 0 < 128) (h16 : t.length + s.length ≤ 2 * cap + 2) (hf : sb_Fit f') (h1 : ∀ i, i < s.length → f' (t.length + i) = nI (s.getD i 0)) (h2 : ∀ j, j < t.length → f' j = f j) : txOK (ncap (t ++ s).length cap) (t ++ s) f' := by
  have el : (t ++ s).length = t.length + s.length := List.length_append
  refine ⟨by rw [el]; exact ncap_le h16, hf, fun j hj => ?_⟩
  rw [el] at hj
  by_cases e : j < t.length
  · have eg : (t ++ s).getD j 0 = t.getD j 0 := by rw [List.getD_eq_getElem?_getD, List.getD_eq_getElem?_getD, List.getElem?_append_left e]
    rw [eg, h2 j e]
    exact h.2.2 j e
  · obtain ⟨i, rfl⟩ : ∃ i, j = t.length + i := ⟨j - t.length, by omega⟩
    have eg : (t ++ s).getD (t.length + i) 0 = s.getD i 0 := by rw [List.getD_eq_getElem?_getD, List.getD_eq_getElem?_getD, List.getElem?_append_right (by omega), Nat.add_sub_cancel_left]
    rw [eg]
    exact ⟨hs i (by omega), h1 i (by omega)⟩
theorem c_apiW0 (l : Launch) (D : va_G) (cy : Nat → ClassId) (A : Nat → Prop) (ad sad : Nat → Nat) (X M : XF) (K : KF) (v : Nat) (hv : v < 1000000) (h16 : 16 ≤ K.2.1 0) (hcap : K.2.1 0 < 2 ^ 26) : Met l yJ4_append_bf812 (wsA yJ4_append_bf812 cJ4_append_bf812 2 (some (.object "java/lang/StringBuilder"))) ({ frames := 5, cells := gcl ((K.2.2.1 0).length + sb_dg v) (K.2.1 0), slots := gsl ((K.2.2.1 0).length + sb_dg v) (K.2.1 0), locals := 160 }) (PcW D cy A ad sad X M K [.ref (ad 39), .int (nI v)]) (va_Qr (fun (u : SS) => u = (X, M, kApp K 0 (decL v))) (fun u q t => (fun H => q = ad 39 ∧ WO D cy A ad u H) t.heap) A) (gcl ((K.2.2.1 0).length + sb_dg v) (K.2.1 0)) (gsl ((K.2.2.1 0).length + sb_dg v) (K.2.1 0)) A := by
  refine Met.qmono (Met.pmono (Met.ex (fun g : TxG K => c_api l D cy A sad (wL ad cy g.1.1 g.1.2.1 g.1.2.2.1 g.1.2.2.2 X M K) 39 40 (ad 39) g.1.1 (K.2.2.1 0).length (K.2.1 0) g.1.2.2.1 (wL_ok0 _ _ _ _ _ _ _ _ _) hcap h16 g.2.1.1 g.2.1.2.1 v hv)) (fun a s h => ?_)) (fun a s o t h => ?_)
  · obtain ⟨h1, h2, h3, h4, b0, b1, f0, f1, h5, h6, h7, h8⟩ := h
    exact ⟨⟨(b0, b1, f0, f1), h5, h6⟩, h1, h2, h3, h4, h7, h8⟩
  · obtain ⟨g, -, ⟨u, q, e1, hu, e2, hP, hD⟩, hF⟩ := h
    refine ⟨⟨(X, M, kApp K 0 (decL v)), q, e1, rfl, e2, ?_⟩, hF⟩
    have el : (K.2.2.1 0 ++ decL v).length = (K.2.2.1 0).length + sb_dg v := by rw [List.length_append, decL_len]
    have hdg := (sb_dg_in v).1
    have hx : txOK (ncap (K.2.2.1 0 ++ decL v).length (K.2.1 0)) (K.2.2.1 0 ++ decL v) u.2 := g.2.1.app (fun j hj => by rw [decL_len] at hj; rw [decL_get hj]; omega) (by rw [decL_len]; have := g.2.1.1; have := sb_dg6 hv; omega) hu.1 (fun i hi => by
      rw [decL_len] at hi
      have := hu.2.2 (sb_dg v - 1 - i) (by omega)
      rw [show (K.2.2.1 0).length + sb_dg v - 1 - (sb_dg v - 1 - i) = (K.2.2.1 0).length + i by omega] at this
      rw [decL_get hi]
      exact this) hu.2.1
    rw [← el, wLA0] at hP hD
    exact ⟨u.1, g.1.2.1, u.2, g.1.2.2.2, hx, g.2.2, hP, hD⟩
theorem c_lenW0 (l : Launch) (D : va_G) (cy : Nat → ClassId) (A : Nat → Prop) (ad sad : Nat → Nat) (X M : XF) (K : KF) (hcap : K.2.1 0 < 2 ^ 26) : Met l yJ4_length_8abf5 (wsA yJ4_length_8abf5 cJ4_length_8abf5 1 (some .int)) ({ frames := 1, cells := 0, slots := 0, locals := 20 }) (PcW D cy A ad sad X M K [.ref (ad 39)]) (QiW D cy A ad (fun r X1 M1 K1 => r = nI (K.2.2.1 0).length ∧ X1 = X ∧ M1 = M ∧ K1 = K)) 0 0 A := by
  refine Met.qmono (Met.pmono (Met.ex (fun g : TxG K => c_J4_length_8abf5 l D cy A sad (wL ad cy g.1.1 g.1.2.1 g.1.2.2.1 g.1.2.2.2 X M K) 39 40 (ad 39) g.1.1 (K.2.2.1 0).length (K.2.1 0) g.1.2.2.1 (wL_ok0 _ _ _ _ _ _ _ _ _) (by omega) g.2.1.1)) (fun a s h => ?_)) (fun a s o t h => ?_)
  · obtain ⟨h1, h2, h3, h4, b0, b1, f0, f1, h5, h6, h7, h8⟩ := h
    exact ⟨⟨(b0, b1, f0, f1), h5, h6⟩, h1, h2, h3, h4, h7, h8⟩
  · obtain ⟨g, -, ⟨r, u, e1, hu, hP, hD⟩, hF⟩ := h
    exact ⟨⟨r, (X, M, K), e1, ⟨hu, rfl, rfl, rfl⟩, g.1.1, g.1.2.1, g.1.2.2.1, g.1.2.2.2, g.2.1, g.2.2, hP, hD⟩, hF⟩
theorem c_chW0 (l : Launch) (D : va_G) (cy : Nat → ClassId) (A : Nat → Prop) (ad sad : Nat → Nat) (X M : XF) (K : KF) (i : Nat) (hi : i < (K.2.2.1 0).length) (hcap : K.2.1 0 < 2 ^ 26) : Met l yJ4_charAt_5068e (wsA yJ4_charAt_5068e cJ4_charAt_5068e 2 (some .char)) ({ frames := 3, cells := 0, slots := 0, locals := 67 }) (PcW D cy A ad sad X M K [.ref (ad 39), .int (nI i)]) (QiW D cy A ad (fun r X1 M1 K1 => r = nI ((K.2.2.1 0).getD i 0) ∧ X1 = X ∧ M1 = M ∧ K1 = K)) 0 0 A := by
  refine Met.qmono (Met.pmono (Met.ex (fun g : TxG K => c_J4_charAt_5068e l D cy A sad (wL ad cy g.1.1 g.1.2.1 g.1.2.2.1 g.1.2.2.2 X M K) 39 40 (ad 39) g.1.1 (K.2.2.1 0).length (K.2.1 0) g.1.2.2.1 (wL_ok0 _ _ _ _ _ _ _ _ _) (by omega) g.2.1.1 i _ hi (g.2.1.2.2 i hi).2 (g.2.1.2.2 i hi).1)) (fun a s h => ?_)) (fun a s o t h => ?_)
  · obtain ⟨h1, h2, h3, h4, b0, b1, f0, f1, h5, h6, h7, h8⟩ := h
    exact ⟨⟨(b0, b1, f0, f1), h5, h6⟩, h1, h2, h3, h4, h7, h8⟩
  · obtain ⟨g, -, ⟨r, u, e1, hu, hP, hD⟩, hF⟩ := h
    exact ⟨⟨r, (X, M, K), e1, ⟨hu, rfl, rfl, rfl⟩, g.1.1, g.1.2.1, g.1.2.2.1, g.1.2.2.2, g.2.1, g.2.2, hP, hD⟩, hF⟩
section
variable {G : MC} {cc : ByteArray} {own : String} {X M : XF} {K : KF} {L : List (Nat × Value)} {k n pc mc ms : Nat} {y : MethodName} {bytes : ByteArray} {maxL idx b : Nat} {ret : Option FieldType} {rm : Room} {As rest st0 : List Value}
theorem rv_J4_0 (C : Cx G cc own) : ∀ H, WX G X M K H → ∃ cellB : Cell, H[gad G 39]? = some cellB ∧ cellB.vm.isStatics = false ∧ (gs G).vm.findClass RJ4 = some cellB.cls := fun H hw => by
  obtain ⟨b0, b1, f0, f1, -, -, hP, -⟩ := hw
  exact va_recv C.K hP (ci := 12) (q := (RJ4, TJ4, 4)) rfl (wL_39 (gad G) (gcy G) X M K b0 b1 f0 f1)
theorem g_callVrW {u0 : SS} (C : Cx G cc own) (hM : Met (gl G) y (wsA y bytes maxL ret) rm (PcH (gD G) (gcy G) (gA G) (gsa G) (WX G X M K) (.ref b :: As)) (va_Qr (fun (u : SS) => u = u0) (fun u q t => (fun H => q = b ∧ WO (gD G) (gcy G) (gA G) (gad G) u H) t.heap) (gA G)) mc ms (gA G)) (hlk : Cond.methodLink own idx y ∈ lw_all) (hin : Cond.instanceMethod y ∈ lw_all) (hse : Cond.selects y.cls y y ∈ lw_all) (hini : Cond.initialized y.cls ∈ lw_all) (hco : Cond.code y bytes maxL ret ∈ lw_all) (hrecv : ∀ H, WX G X M K H → ∃ cellB : Cell, H[b]? = some cellB ∧ cellB.vm.isStatics = false ∧ (gs G).vm.findClass y.cls = some cellB.cls) (hd : y.cls ≠ "java/lang/invoke/MethodHandle" ∧ y.cls ≠ "java/lang/invoke/VarHandle" ∧ (parseMethodDescriptor y.desc).map (fun d => d.parameters.length) = some As.length) (hrm : rm.cells = mc ∧ rm.slots = ms) (hR : rm.frames + 1 ≤ (gR G).frames ∧ 8 + (maxL + 11) + rm.locals ≤ (gR G).locals) (hst0 : st0 = As.reverse ++ .ref b :: rest) (hW : (rest.map fun v => v.category).sum ≤ 8) (d : decode cc pc = .ok (.invokevirtual idx, 3)) (hf : k + mc ≤ (gR G).cells ∧ n + ms ≤ (gR G).slots) (kk : GH G (WX G u0.1 u0.2.1 u0.2.2) L (k + mc) (n + ms) (pc + 3) (.ref b :: rest)) : GH G (WX G X M K) L k n pc st0 := by
  intro H locs ls hl hw hS
  exact va_callr (va_runV (As := As) (rest := rest) C.fix hM (cwV As.length C.ts (goodV hlk hin hse hini (goodA hco)) rfl hrm.1 hrm.2 ⟨rfl, hd⟩ hR) ⟨PcH.blind, hrecv H hw, fun U hU hW => PcH.at C hw hS hU hW⟩ rfl rfl hl.1 hst0 (lv_room hW) d hf) hS (fun q _ h => h) (fun q h => h) (fun u q t H1 locs1 ht hvm hp hB hz hk hS1 => by
    obtain ⟨e1, hB⟩ := hB
    subst e1 hp
    exact kk H1 locs1 ls hl (by rw [← ht]; exact hB) hS1)
end
