/-! the law: a text of its own -/
def strH (D : va_G) (cy : Nat → ClassId) (s v N : Nat) (f : Nat → Int32) (H : Heap) : Prop := ∃ w : va_W, va_P D clT w H ∧ w[50]? = some (sObj s v) ∧ w[51]? = some (tRow (cy 3) v N f)
section
variable {G : MC} {cc : ByteArray} {own : String} {Wp : Heap → Prop} {s v N : Nat} {f : Nat → Int32} {L : List (Nat × Value)} {k n pc mc ms : Nat} {stk : List Value}
theorem g_kvalE (hS : ∀ H, Wp H → strH (gD G) (gcy G) s v N f H) (C : Cx G cc own) {idx : Nat} (hk : Cond.fieldLink own idx "java/lang/String" "value" "[B" ∈ lw_all) (d : decode cc pc = .ok (.getfield idx, 3)) (kk : GH G Wp L k n (pc + 3) (.ref v :: stk)) : GH G Wp L k n pc (.ref s :: stk) := fun H locs ls hl hw hS1 => by
  obtain ⟨w, hP, h1, h2⟩ := hS H hw
  exact va_get C.x C.b C.ts inT_J0 C.o C.K hP 50 h1 (rfl : clT[13]? = _) 0 (by decide) (C.ts _ hk) (fun _ h => h) rfl d (kk H locs ls hl hw hS1)
theorem g_kcodE (hS : ∀ H, Wp H → strH (gD G) (gcy G) s v N f H) (C : Cx G cc own) {idx : Nat} (hk : Cond.fieldLink own idx "java/lang/String" "coder" "B" ∈ lw_all) (d : decode cc pc = .ok (.getfield idx, 3)) (kk : GH G Wp L k n (pc + 3) (.int 0 :: stk)) : GH G Wp L k n pc (.ref s :: stk) := fun H locs ls hl hw hS1 => by
  obtain ⟨w, hP, h1, h2⟩ := hS H hw
  exact va_get C.x C.b C.ts inT_J0 C.o C.K hP 50 h1 (rfl : clT[13]? = _) 1 (by decide) (C.ts _ hk) (fun _ h => h) rfl d (kk H locs ls hl hw hS1)
theorem g_klenE (hS : ∀ H, Wp H → strH (gD G) (gcy G) s v N f H) (C : Cx G cc own) (d : decode cc pc = .ok (.arraylength, 1)) (kk : GH G Wp L k n (pc + 1) (.int (nI N) :: stk)) : GH G Wp L k n pc (.ref v :: stk) := fun H locs ls hl hw hS1 => by
  obtain ⟨w, hP, h1, h2⟩ := hS H hw
  exact va_alen C.x C.b C.K hP 51 3 h2 rfl rfl d (kk H locs ls hl hw hS1)
theorem g_kldE (hS : ∀ H, Wp H → strH (gD G) (gcy G) s v N f H) (C : Cx G cc own) {i : Nat} (hi : i < N ∧ N < 2 ^ 31) (d : decode cc pc = .ok (.baload, 1)) (kk : GH G Wp L k n (pc + 1) (.int (f i) :: stk)) : GH G Wp L k n pc (.int (nI i) :: .ref v :: stk) := fun H locs ls hl hw hS1 => by
  obtain ⟨w, hP, h1, h2⟩ := hS H hw
  refine va_bald C.x C.b C.K hP 51 3 h2 rfl (vp_in_nI hi.1 hi.2) d ?_
  rw [nI_clamp (Nat.lt_trans hi.1 hi.2)]
  exact kk H locs ls hl hw hS1
end
section
variable {G : MC} {cc : ByteArray} {own : String} {Wp : Heap → Prop} {s v N : Nat} {f : Nat → Int32} {L : List (Nat × Value)} {k n pc mc ms : Nat} {y : MethodName} {bytes : ByteArray} {maxL idx : Nat} {ret : Option FieldType} {rm : Room} {As rest st0 : List Value}
theorem g_callKiPE (hStr : ∀ H, Wp H → strH (gD G) (gcy G) s v N f H) {pst : Int32 → Prop} (C : Cx G cc own) (hy : y.cls = "java/lang/String") (hM : Met (gl G) y (wsA y bytes maxL ret) rm (PcH (gD G) (gcy G) (gA G) (gsa G) Wp (.ref s :: As)) (QiP (gA G) Wp pst) mc ms (gA G)) (hlk : Cond.methodLink own idx y ∈ lw_all) (hin : Cond.instanceMethod y ∈ lw_all) (hse : Cond.selects y.cls y y ∈ lw_all) (hini : Cond.initialized y.cls ∈ lw_all) (hco : Cond.code y bytes maxL ret ∈ lw_all) (hst0 : st0 = As.reverse ++ .ref s :: rest) (hd : y.cls ≠ "java/lang/invoke/MethodHandle" ∧ y.cls ≠ "java/lang/invoke/VarHandle" ∧ (parseMethodDescriptor y.desc).map (fun d => d.parameters.length) = some As.length) (hrm : rm.cells = mc ∧ rm.slots = ms) (hR : rm.frames + 1 ≤ (gR G).frames ∧ 8 + (maxL + 11) + rm.locals ≤ (gR G).locals) (hW : (rest.map fun v => v.category).sum ≤ 8) (d : decode cc pc = .ok (.invokevirtual idx, 3)) (hf : k + mc ≤ (gR G).cells ∧ n + ms ≤ (gR G).slots) (kk : ∀ r, pst r → GH G Wp L (k + mc) (n + ms) (pc + 3) (.int r :: rest)) : GH G Wp L k n pc st0 := by
  intro H locs ls hl hw hS
  have hrc : ∃ cellB : Cell, H[s]? = some cellB ∧ cellB.vm.isStatics = false ∧ (gs G).vm.findClass y.cls = some cellB.cls := by
    rw [hy]
    obtain ⟨w, hP, h1, h2⟩ := hStr H hw
    exact va_recv (q := (RJ0, TJ0, 4)) C.K hP rfl h1
  exact va_calli (S := Unit) (va_runV (As := As) (rest := rest) C.fix hM (cwV As.length C.ts (goodV hlk hin hse hini (goodA hco)) rfl hrm.1 hrm.2 ⟨rfl, hd⟩ hR) ⟨PcH.blind, hrc, fun U hU hW => PcH.at C hw hS hU hW⟩ rfl rfl hl.1 hst0 (lv_room hW) d hf) hS (fun q _ h => h) (fun q h => h) (fun r u t H1 locs1 ht hvm hp hB hz hk hS1 => kk r hp H1 locs1 ls hl (by rw [← ht]; exact hB) hS1)
end
set_option maxRecDepth 100000 in
theorem strH_of {G : MC} {X M : XF} {K : KF} {e0 e1 : Nat × va_E} {s v N : Nat} {f : Nat → Int32} : ∀ H, WX G X M (kE K [e0, e1, sObj s v, tRow (gcy G 3) v N f]) H → strH (gD G) (gcy G) s v N f H := fun H hw => by
  obtain ⟨b0, b1, f0, f1, -, -, hP, -⟩ := hw
  exact ⟨_, hP, rfl, rfl⟩
section
variable {G : MC} {cc : ByteArray} {own : String} {X M : XF} {K : KF} {L : List (Nat × Value)} {k n pc : Nat} {stk : List Value}
theorem g_dropAll {E : va_W} (hE : K.2.2.2 = []) (kk : GH G (WX G X M K) L k n pc stk) : GH G (WX G X M (kE K E)) L k n pc stk := by
  refine g_drop (E := []) (E2 := E) rfl ?_
  refine g_K (K' := K) ?_ kk
  obtain ⟨J, C, T, E0⟩ := K
  have e : E0 = [] := hE
  subst e
  rfl
theorem gL_log (C : Cx G cc "LaunchRangeLaw") (hE : K.2.2.2 = []) (hT : (K.2.2.1 0).length ≤ 2000) (hcap : K.2.1 0 < 2 ^ 26) (d : decode cc pc = .ok (.invokestatic 243, 3)) (hR : 15 ≤ (gR G).frames ∧ 408 ≤ (gR G).locals) (hW : (stk.map fun v => v.category).sum ≤ 8) (hf : k + 300 ≤ (gR G).cells ∧ n + 20000 ≤ (gR G).slots) (kk : (∀ j : Nat, (K.2.2.1 0).getD j 0 < 128) → ∀ (e0 e1 : Nat × va_E) (s v : Nat) (f : Nat → Int32), (∀ j, j < (K.2.2.1 0).length → f j = nI ((K.2.2.1 0).getD j 0)) → GH G (WX G X M (kE K [e0, e1, sObj s v, tRow (gcy G 3) v (K.2.2.1 0).length f])) L (k + 300) (n + 20000) (pc + 3) (.ref s :: stk)) : GH G (WX G X M K) L k n pc (.ref (gad G 0) :: stk) := by
  intro H locs ls hl hw hS
  have hch : ∀ j : Nat, (K.2.2.1 0).getD j 0 < 128 := by
    obtain ⟨b0, b1, f0, f1, h0, -⟩ := id hw
    intro j
    rcases Nat.lt_or_ge j (K.2.2.1 0).length with q | q
    · exact (h0.2.2 j q).1
    · rw [List.getD_eq_getElem?_getD, List.getElem?_eq_none q]
      decide
  exact g_callSrR (S := (Nat × va_E) × (Nat × va_E) × Nat × (Nat → Int32)) (post := fun u => ∀ j, j < (K.2.2.1 0).length → u.2.2.2 j = nI ((K.2.2.1 0).getD j 0)) (WR := fun u s => WX G X M (kE K [u.1, u.2.1, sObj s u.2.2.1, tRow (gcy G 3) u.2.2.1 (K.2.2.1 0).length u.2.2.2])) C (c_L_log _ _ _ _ _ _ X M K hE hT hcap hch) tw1194 tw1195 tw0 tw1196 ⟨by decide +kernel, by decide +kernel, rfl⟩ ⟨rfl, rfl⟩ ⟨by show 14 + 1 ≤ _; exact hR.1, by show 8 + (3 + 11) + 386 ≤ _; exact hR.2⟩ rfl hW d hf (fun u s hu => kk hch u.1 u.2.1 s u.2.2.1 u.2.2.2 hu) H locs ls hl hw hS
end
/-! how often a letter of the eight was told -/
def lgB (t : Nat) : Int32 := if kz ltrB 8 (nI t) < 0 then 0 else 1
def lgN (T : List Nat) : Nat → Int32
  | 0 => 0
  | i + 1 => lgN T i + lgB (T.getD i 0)
def tmN (T : List Nat) : Nat → Int32
  | 0 => 0
  | j + 1 => tmN T j + tm_of T (ltrB.getD j 0) T.length
def one (t : Nat) (c : Int32) : Int32 := if nI t = c then 1 else 0
theorem lgB_sum {t : Nat} (h : t < 128) : lgB t = one t 67 + one t 72 + one t 71 + one t 82 + one t 83 + one t 70 + one t 88 + one t 79 := (by decide +kernel : ∀ t : Fin 128, lgB t.val = one t.val 67 + one t.val 72 + one t.val 71 + one t.val 82 + one t.val 83 + one t.val 70 + one t.val 88 + one t.val 79) ⟨t, h⟩
def tmS (T : List Nat) (i : Nat) : Int32 := tm_of T 67 i + tm_of T 72 i + tm_of T 71 i + tm_of T 82 i + tm_of T 83 i + tm_of T 70 i + tm_of T 88 i + tm_of T 79 i
theorem add8 (a1 a2 a3 a4 a5 a6 a7 a8 b1 b2 b3 b4 b5 b6 b7 b8 : Int32) : a1 + a2 + a3 + a4 + a5 + a6 + a7 + a8 + (b1 + b2 + b3 + b4 + b5 + b6 + b7 + b8) = (a1 + b1) + (a2 + b2) + (a3 + b3) + (a4 + b4) + (a5 + b5) + (a6 + b6) + (a7 + b7) + (a8 + b8) := by
  ac_rfl
theorem lgN_tmS {T : List Nat} (hch : ∀ j : Nat, T.getD j 0 < 128) : ∀ i, lgN T i = tmS T i
  | 0 => rfl
  | i + 1 => by
    show lgN T i + lgB (T.getD i 0) = (tm_of T 67 i + one (T.getD i 0) 67) + (tm_of T 72 i + one (T.getD i 0) 72) + (tm_of T 71 i + one (T.getD i 0) 71) + (tm_of T 82 i + one (T.getD i 0) 82) + (tm_of T 83 i + one (T.getD i 0) 83) + (tm_of T 70 i + one (T.getD i 0) 70) + (tm_of T 88 i + one (T.getD i 0) 88) + (tm_of T 79 i + one (T.getD i 0) 79)
    rw [lgN_tmS hch i, lgB_sum (hch i)]
    unfold tmS
    exact add8 _ _ _ _ _ _ _ _ _ _ _ _ _ _ _ _
theorem tmN_tmS (T : List Nat) : tmN T 8 = tmS T T.length := by
  show 0 + tm_of T 67 T.length + tm_of T 72 T.length + tm_of T 71 T.length + tm_of T 82 T.length + tm_of T 83 T.length + tm_of T 70 T.length + tm_of T 88 T.length + tm_of T 79 T.length = _
  rw [Int32.zero_add]
  rfl
/-- the counts of a log that is right -/
def okN (T : List Nat) (n : Nat → Nat) : Prop := LG T n ∧ n 59 = n 67 + n 72 + n 71 + n 82 + n 83 + n 70 + n 88 + n 79 ∧ n 71 ≤ n 72 ∧ n 70 ≤ 1 ∧ n 59 < 2 ^ 28
theorem okN.sum {T : List Nat} {n : Nat → Nat} (h : okN T n) : tmS T T.length = nI (n 59) := by
  have e : ∀ d : Nat, 57 < d → d < 128 → tm_of T (nI d) T.length = nI (n d) := fun d h1 h2 => h.1 d (Or.inr h1) h2
  have e1 : tm_of T 67 T.length = nI (n 67) := e 67 (by decide) (by decide)
  have e2 : tm_of T 72 T.length = nI (n 72) := e 72 (by decide) (by decide)
  have e3 : tm_of T 71 T.length = nI (n 71) := e 71 (by decide) (by decide)
  have e4 : tm_of T 82 T.length = nI (n 82) := e 82 (by decide) (by decide)
  have e5 : tm_of T 83 T.length = nI (n 83) := e 83 (by decide) (by decide)
  have e6 : tm_of T 70 T.length = nI (n 70) := e 70 (by decide) (by decide)
  have e7 : tm_of T 88 T.length = nI (n 88) := e 88 (by decide) (by decide)
  have e8 : tm_of T 79 T.length = nI (n 79) := e 79 (by decide) (by decide)
  unfold tmS
  rw [e1, e2, e3, e4, e5, e6, e7, e8, nI_add, nI_add, nI_add, nI_add, nI_add, nI_add, nI_add, h.2.1]
theorem okN.n59 {T : List Nat} {n : Nat → Nat} (h : okN T n) : tm_of T 59 T.length = nI (n 59) := h.1 59 (Or.inr (by decide)) (by decide)
theorem okN.diff {T : List Nat} {n : Nat → Nat} (h : okN T n) : ¬ tm_of T 72 T.length - tm_of T 71 T.length < 0 := by
  have e2 : tm_of T 72 T.length = nI (n 72) := h.1 72 (Or.inr (by decide)) (by decide)
  have e3 : tm_of T 71 T.length = nI (n 71) := h.1 71 (Or.inr (by decide)) (by decide)
  have h1 := h.2.2.1
  have h2 := h.2.1
  have h3 := h.2.2.2.2
  rw [e2, e3, show n 72 = (n 72 - n 71) + n 71 by omega, ← nI_add, Int32.add_sub_cancel]
  exact nI_pos (by omega)
theorem okN.one {T : List Nat} {n : Nat → Nat} (h : okN T n) : ¬ 1 < tm_of T 70 T.length := by
  have e : tm_of T 70 T.length = nI (n 70) := h.1 70 (Or.inr (by decide)) (by decide)
  have h1 := h.2.2.2.1
  rw [e]
  have : n 70 = 0 ∨ n 70 = 1 := by omega
  rcases this with q | q <;> rw [q] <;> decide

set_option maxHeartbeats 400000 in
/-- String.coder -/
theorem cE_J0_coder_7d493 (l : Launch) (D : va_G) (cy : Nat → ClassId) (A : Nat → Prop) (sad : Nat → Nat) (Wp : Heap → Prop) (s v N : Nat) (f : Nat → Int32) (hS : ∀ H, Wp H → strH D cy s v N f H) : Met l yJ0_coder_7d493 (wsA yJ0_coder_7d493 cJ0_coder_7d493 1 (some .byte)) ({ frames := 0, cells := 0, slots := 0, locals := 0 }) (PcH D cy A sad Wp [.ref s]) (QiP A Wp (fun r => r = 0)) 0 0 A := by
  refine met_ofP (fun _ => 0) [(0, .ref s)] (by decide +kernel) (Nat.le_of_ble_eq_true rfl) rfl ?_
  intro G C hl hR hL hD hcy hA had hsa hr hQ
  subst hD hcy hA hsa hl
  refine g_compact C tw1124 dJ0_coder_7d493_0 ?_
  refine g_if_eq C dJ0_coder_7d493_3 (tgt := 13) (by decide) (fun c_3 => absurd c_3 (by decide)) (fun c_3 => ?_)
  refine g_aload_n C dJ0_coder_7d493_6 0 rfl ?_
  refine g_kcodE hS C tw1283 dJ0_coder_7d493_7 ?_
  refine g_goto C dJ0_coder_7d493_10 (tgt := 14) (by decide) ?_
  refine g_zretP C hr (by decide) hQ (by decide) (by decide) dJ0_coder_7d493_14 ?_
  rfl

set_option maxHeartbeats 400000 in
/-- String.isLatin1 -/
theorem cE_J0_isLatin1_aae02 (l : Launch) (D : va_G) (cy : Nat → ClassId) (A : Nat → Prop) (sad : Nat → Nat) (Wp : Heap → Prop) (s v N : Nat) (f : Nat → Int32) (hS : ∀ H, Wp H → strH D cy s v N f H) : Met l yJ0_isLatin1_aae02 (wsA yJ0_isLatin1_aae02 cJ0_isLatin1_aae02 1 (some .boolean)) ({ frames := 0, cells := 0, slots := 0, locals := 0 }) (PcH D cy A sad Wp [.ref s]) (QiP A Wp (fun r => r = 1)) 0 0 A := by
  refine met_ofP (fun _ => 0) [(0, .ref s)] (by decide +kernel) (Nat.le_of_ble_eq_true rfl) rfl ?_
  intro G C hl hR hL hD hcy hA had hsa hr hQ
  subst hD hcy hA hsa hl
  refine g_compact C tw1124 dJ0_isLatin1_aae02_0 ?_
  refine g_if_eq C dJ0_isLatin1_aae02_3 (tgt := 17) (by decide) (fun c_3 => absurd c_3 (by decide)) (fun c_3 => ?_)
  refine g_aload_n C dJ0_isLatin1_aae02_6 0 rfl ?_
  refine g_kcodE hS C tw1283 dJ0_isLatin1_aae02_7 ?_
  refine g_if_ne C dJ0_isLatin1_aae02_10 (tgt := 17) (by decide) (fun c_10 => absurd c_10 (by decide)) (fun c_10 => ?_)
  refine g_iconst C dJ0_isLatin1_aae02_13 (v := 1) (by decide) ?_
  refine g_goto C dJ0_isLatin1_aae02_14 (tgt := 18) (by decide) ?_
  refine g_zretP C hr (by decide) hQ (by decide) (by decide) dJ0_isLatin1_aae02_18 ?_
  rfl

set_option maxHeartbeats 400000 in
/-- String.length -/
theorem cE_J0_length_8abf5 (l : Launch) (D : va_G) (cy : Nat → ClassId) (A : Nat → Prop) (sad : Nat → Nat) (Wp : Heap → Prop) (s v N : Nat) (f : Nat → Int32) (hS : ∀ H, Wp H → strH D cy s v N f H) (hN : N < 2 ^ 28) : Met l yJ0_length_8abf5 (wsA yJ0_length_8abf5 cJ0_length_8abf5 1 (some .int)) ({ frames := 1, cells := 0, slots := 0, locals := 20 }) (PcH D cy A sad Wp [.ref s]) (QiP A Wp (fun r => r = nI N)) 0 0 A := by
  refine met_ofP (fun _ => 0) [(0, .ref s)] (by decide +kernel) (Nat.le_of_ble_eq_true rfl) rfl ?_
  intro G C hl hR hL hD hcy hA had hsa hr hQ
  subst hD hcy hA hsa hl
  refine g_aload_n C dJ0_length_8abf5_0 0 rfl ?_
  refine g_kvalE hS C tw1282 dJ0_length_8abf5_1 ?_
  refine g_klenE hS C dJ0_length_8abf5_4 ?_
  refine g_aload_n C dJ0_length_8abf5_5 0 rfl ?_
  refine g_callKiPE hS C rfl (cE_J0_coder_7d493 _ _ _ _ _ _ _ _ _ _ hS) tw1251 tw1252 tw1253 tw14 tw1254 rfl ⟨by decide +kernel, by decide +kernel, rfl⟩ ⟨rfl, rfl⟩ (by rw [hR]; decide) (Nat.le_of_ble_eq_true rfl) dJ0_length_8abf5_6 (by rw [hR]; decide) (fun r_1 h_2 => ?_)
  refine g_topi (y := 0) h_2 ?_
  refine g_ishr C dJ0_length_8abf5_9 ?_
  refine g_iretP C hr hQ (by decide) (by decide) dJ0_length_8abf5_10 ?_
  exact sb_shr0 _

set_option maxHeartbeats 400000 in
/-- StringLatin1.charAt -/
theorem cE_J1_charAt_3b067 (l : Launch) (D : va_G) (cy : Nat → ClassId) (A : Nat → Prop) (sad : Nat → Nat) (Wp : Heap → Prop) (s v N : Nat) (f : Nat → Int32) (hS : ∀ H, Wp H → strH D cy s v N f H) (hN : N < 2 ^ 28) (i : Nat) (hi : i < N) (t : Nat) (ht : t < 128) (hf : f i = nI t) : Met l yJ1_charAt_3b067 (wsA yJ1_charAt_3b067 cJ1_charAt_3b067 2 (some .char)) ({ frames := 2, cells := 0, slots := 0, locals := 43 }) (PcH D cy A sad Wp [.ref v, .int (nI i)]) (QiP A Wp (fun r => r = nI t)) 0 0 A := by
  refine met_ofP (fun _ => 0) [(0, .ref v), (1, .int (nI i))] (by decide +kernel) (Nat.le_of_ble_eq_true rfl) rfl ?_
  intro G C hl hR hL hD hcy hA had hsa hr hQ
  subst hD hcy hA hsa hl
  refine g_iload_n C dJ1_charAt_3b067_0 1 rfl ?_
  refine g_aload_n C dJ1_charAt_3b067_1 0 rfl ?_
  refine g_klenE hS C dJ1_charAt_3b067_2 ?_
  refine g_callSvP C (c_J0_checkIndex_df160 _ _ _ _ _ _ i N hi (by omega)) tw1128 tw881 tw14 tw882 rfl ⟨by decide +kernel, by decide +kernel, rfl⟩ ⟨rfl, rfl⟩ (by rw [hR]; decide) (Nat.le_of_ble_eq_true rfl) dJ1_charAt_3b067_3 (by rw [hR]; decide) (?_)
  refine g_aload_n C dJ1_charAt_3b067_6 0 rfl ?_
  refine g_iload_n C dJ1_charAt_3b067_7 1 rfl ?_
  refine g_kldE hS C ⟨hi, by omega⟩ dJ1_charAt_3b067_8 ?_
  refine g_sipush C dJ1_charAt_3b067_9 (v := 255) (by decide) ?_
  refine g_iand C dJ1_charAt_3b067_12 ?_
  refine g_i2c C dJ1_charAt_3b067_13 ?_
  refine g_topi (ch_of hf ht) ?_
  refine g_zretP C hr (ch_nar ht) hQ (by decide) (by decide) dJ1_charAt_3b067_14 ?_
  rfl

set_option maxHeartbeats 400000 in
/-- String.charAt -/
theorem cE_J0_charAt_5068e (l : Launch) (D : va_G) (cy : Nat → ClassId) (A : Nat → Prop) (sad : Nat → Nat) (Wp : Heap → Prop) (s v N : Nat) (f : Nat → Int32) (hS : ∀ H, Wp H → strH D cy s v N f H) (hN : N < 2 ^ 28) (i : Nat) (hi : i < N) (t : Nat) (ht : t < 128) (hf : f i = nI t) : Met l yJ0_charAt_5068e (wsA yJ0_charAt_5068e cJ0_charAt_5068e 2 (some .char)) ({ frames := 3, cells := 0, slots := 0, locals := 64 }) (PcH D cy A sad Wp [.ref s, .int (nI i)]) (QiP A Wp (fun r => r = nI t)) 0 0 A := by
  refine met_ofP (fun _ => 0) [(0, .ref s), (1, .int (nI i))] (by decide +kernel) (Nat.le_of_ble_eq_true rfl) rfl ?_
  intro G C hl hR hL hD hcy hA had hsa hr hQ
  subst hD hcy hA hsa hl
  refine g_aload_n C dJ0_charAt_5068e_0 0 rfl ?_
  refine g_callKiPE hS C rfl (cE_J0_isLatin1_aae02 _ _ _ _ _ _ _ _ _ _ hS) tw1120 tw1121 tw1122 tw14 tw1123 rfl ⟨by decide +kernel, by decide +kernel, rfl⟩ ⟨rfl, rfl⟩ (by rw [hR]; decide) (Nat.le_of_ble_eq_true rfl) dJ0_charAt_5068e_1 (by rw [hR]; decide) (fun r_1 h_2 => ?_)
  refine g_topi (y := 1) h_2 ?_
  refine g_if_eq C dJ0_charAt_5068e_4 (tgt := 16) (by decide) (fun c_4 => absurd c_4 (by decide)) (fun c_4 => ?_)
  refine g_aload_n C dJ0_charAt_5068e_7 0 rfl ?_
  refine g_kvalE hS C tw1282 dJ0_charAt_5068e_8 ?_
  refine g_iload_n C dJ0_charAt_5068e_11 1 rfl ?_
  refine g_callSiP C (cE_J1_charAt_3b067 _ _ _ _ _ _ _ _ _ _ hS hN i hi t ht hf) tw1125 tw1126 tw31 tw1127 rfl ⟨by decide +kernel, by decide +kernel, rfl⟩ ⟨rfl, rfl⟩ (by rw [hR]; decide) (Nat.le_of_ble_eq_true rfl) dJ0_charAt_5068e_12 (by rw [hR]; decide) (fun r_3 h_4 => ?_)
  refine g_zretP C hr (by subst h_4; exact ch_nar ht) hQ (by decide) (by decide) dJ0_charAt_5068e_15 ?_
  exact h_4

set_option maxHeartbeats 400000 in
set_option maxRecDepth 100000 in
/-- isLogged.isLogged -/
theorem c_L_isLogged (l : Launch) (D : va_G) (cy : Nat → ClassId) (A : Nat → Prop) (ad sad : Nat → Nat) (X M : XF) (K : KF) (hE : K.2.2.2 = []) (hT : (K.2.2.1 0).length ≤ 2000) (hcap : K.2.1 0 < 2 ^ 26) (n : Nat → Nat) (hn : okN (K.2.2.1 0) n) : Met l yL_isLogged (wsA yL_isLogged cL_isLogged 5 (some .boolean)) ({ frames := 15, cells := 300, slots := 20000, locals := 408 }) (PcW D cy A ad sad X M K [.ref (ad 42)]) (QiW D cy A ad (fun r X1 M1 K1 => r = 1 ∧ X1 = X ∧ M1 = M ∧ K1 = K)) 300 20000 A := by
  refine met_ofW [(0, .ref (ad 42))] (by decide +kernel) (Nat.le_of_ble_eq_true rfl) rfl ?_
  intro G C hl hR hL hD hcy hA had hsa hr hQ
  subst hD hcy hA had hsa hl
  have hrc : (gR G).cells = 300 := by rw [hR]
  have hrs : (gR G).slots = 20000 := by rw [hR]
  refine g_aload_n C dL_isLogged_0 0 rfl ?_
  refine gf_L_o C tw363 dL_isLogged_1 ?_
  refine gL_log C hE hT hcap dL_isLogged_4 (by rw [hR]; exact ⟨by decide, by decide⟩) (Nat.le_of_ble_eq_true rfl) (by omega) (fun hch e0 e1 s v f hf => ?_)
  have hStr : ∀ H, WX G X M (kE K [e0, e1, sObj s v, tRow (gcy G 3) v (K.2.2.1 0).length f]) H → strH (gD G) (gcy G) s v (K.2.2.1 0).length f H := strH_of
  refine g_astore_n C dL_isLogged_7 (L' := [(1, .ref s), (0, .ref (gad G 42))]) rfl (by rw [hL]; decide) ?_
  refine g_iconst C dL_isLogged_8 (v := 0) (by decide) ?_
  refine g_istore_n C dL_isLogged_9 (L' := [(2, .int 0), (1, .ref s), (0, .ref (gad G 42))]) rfl (by rw [hL]; decide) ?_
  refine g_iconst C dL_isLogged_10 (v := 0) (by decide) ?_
  refine g_istore_n C dL_isLogged_11 (L' := [(3, .int 0), (2, .int 0), (1, .ref s), (0, .ref (gad G 42))]) rfl (by rw [hL]; decide) ?_
  have lp12 : ∀ (n i : Nat) (hi : i + n = (K.2.2.1 0).length), GH G (WX G X M (kE K [e0, e1, sObj s v, tRow (gcy G 3) v (K.2.2.1 0).length f])) [(3, .int (nI i)), (2, .int (lgN (K.2.2.1 0) i)), (1, .ref s), (0, .ref (gad G 42))] 300 20000 12 [] := by
    intro n
    induction n with
    | zero =>
      intro i hi
      obtain rfl : i = (K.2.2.1 0).length := by omega
      refine g_iload_n C dL_isLogged_12 0 rfl ?_
      refine g_aload_n C dL_isLogged_13 2 rfl ?_
      refine g_callKiPE hStr C rfl (cE_J0_length_8abf5 _ _ _ _ _ _ _ _ _ _ hStr (by omega)) tw1289 tw1248 tw1249 tw14 tw1250 rfl ⟨by decide +kernel, by decide +kernel, rfl⟩ ⟨rfl, rfl⟩ (by rw [hR]; exact ⟨Nat.le_of_ble_eq_true rfl, Nat.le_of_ble_eq_true rfl⟩) (Nat.le_of_ble_eq_true rfl) dL_isLogged_14 (by omega) (fun r_1 h_2 => ?_)
      refine g_topi (y := nI (K.2.2.1 0).length) h_2 ?_
      refine g_icmp_ge C dL_isLogged_17 (tgt := 50) (by decide) (fun c_17 => ?_) (fun c_17 => absurd (nI_le (a := (K.2.2.1 0).length) (b := (K.2.2.1 0).length) (Nat.le_refl _) (by omega)) c_17)
      refine g_iconst C dL_isLogged_50 (v := 0) (by decide) ?_
      refine g_istore_n C dL_isLogged_51 (L' := [(3, .int 0), (2, .int (lgN (K.2.2.1 0) (K.2.2.1 0).length)), (1, .ref s), (0, .ref (gad G 42))]) rfl (by rw [hL]; decide) ?_
      refine g_iconst C dL_isLogged_52 (v := 0) (by decide) ?_
      refine g_istore C dL_isLogged_53 (L' := [(4, .int 0), (3, .int 0), (2, .int (lgN (K.2.2.1 0) (K.2.2.1 0).length)), (1, .ref s), (0, .ref (gad G 42))]) rfl (by rw [hL]; decide) ?_
      have lp55 : ∀ (n j : Nat) (hi : j + n = 8), GH G (WX G X M (kE K [e0, e1, sObj s v, tRow (gcy G 3) v (K.2.2.1 0).length f])) [(4, .int (nI j)), (3, .int (tmN (K.2.2.1 0) j)), (2, .int (lgN (K.2.2.1 0) (K.2.2.1 0).length)), (1, .ref s), (0, .ref (gad G 42))] 300 20000 55 [] := by
        intro n
        induction n with
        | zero =>
          intro j hi
          obtain rfl : j = 8 := by omega
          refine g_iload C dL_isLogged_55 0 rfl ?_
          refine g_bipush C dL_isLogged_57 (v := 8) (by decide) ?_
          refine g_icmp_ge C dL_isLogged_59 (tgt := 85) (by decide) (fun c_59 => ?_) (fun c_59 => absurd (nI_le (a := 8) (b := 8) (Nat.le_refl _) (by omega)) c_59)
          refine g_iload_n C dL_isLogged_85 2 rfl ?_
          refine g_iload_n C dL_isLogged_86 1 rfl ?_
          refine g_icmp_ne C dL_isLogged_87 (tgt := 142) (by decide) (fun c_87 => absurd c_87 (fun q => q ((lgN_tmS hch _).trans (tmN_tmS _).symm))) (fun c_87 => ?_)
          refine g_aload_n C dL_isLogged_90 4 rfl ?_
          refine gf_L_o C tw363 dL_isLogged_91 ?_
          refine g_bipush C dL_isLogged_94 (v := 59) (by decide) ?_
          refine g_callViW C dL_isLogged_96 (c_X10_logged _ _ _ _ _ _ _ _ _ 59 hcap (by show (K.2.2.1 0).length < 2 ^ 26; omega)) tw1337 tw1338 tw1339 tw1 tw1340 (rv_X10 C) rfl ⟨by decide +kernel, by decide +kernel, rfl⟩ ⟨rfl, rfl⟩ (by rw [hR]; exact ⟨Nat.le_of_ble_eq_true rfl, Nat.le_of_ble_eq_true rfl⟩) (Nat.le_of_ble_eq_true rfl) (by omega) (fun r_3 X1 M1 K1 h_4 => ?_)
          obtain ⟨rfl, hX1, hM1, hK1⟩ := h_4
          subst X1 M1 K1
          refine g_iload_n C dL_isLogged_99 2 rfl ?_
          refine g_icmp_ne C dL_isLogged_100 (tgt := 142) (by decide) (fun c_100 => absurd c_100 (fun q => q (hn.n59.trans (hn.sum.symm.trans (lgN_tmS hch _).symm)))) (fun c_100 => ?_)
          refine g_aload_n C dL_isLogged_103 4 rfl ?_
          refine gf_L_o C tw363 dL_isLogged_104 ?_
          refine g_bipush C dL_isLogged_107 (v := 72) (by decide) ?_
          refine g_callViW C dL_isLogged_109 (c_X10_logged _ _ _ _ _ _ _ _ _ 72 hcap (by show (K.2.2.1 0).length < 2 ^ 26; omega)) tw1337 tw1338 tw1339 tw1 tw1340 (rv_X10 C) rfl ⟨by decide +kernel, by decide +kernel, rfl⟩ ⟨rfl, rfl⟩ (by rw [hR]; exact ⟨Nat.le_of_ble_eq_true rfl, Nat.le_of_ble_eq_true rfl⟩) (Nat.le_of_ble_eq_true rfl) (by omega) (fun r_5 X1 M1 K1 h_6 => ?_)
          obtain ⟨rfl, hX1, hM1, hK1⟩ := h_6
          subst X1 M1 K1
          refine g_aload_n C dL_isLogged_112 4 rfl ?_
          refine gf_L_o C tw363 dL_isLogged_113 ?_
          refine g_bipush C dL_isLogged_116 (v := 71) (by decide) ?_
          refine g_callViW C dL_isLogged_118 (c_X10_logged _ _ _ _ _ _ _ _ _ 71 hcap (by show (K.2.2.1 0).length < 2 ^ 26; omega)) tw1337 tw1338 tw1339 tw1 tw1340 (rv_X10 C) rfl ⟨by decide +kernel, by decide +kernel, rfl⟩ ⟨rfl, rfl⟩ (by rw [hR]; exact ⟨Nat.le_of_ble_eq_true rfl, Nat.le_of_ble_eq_true rfl⟩) (Nat.le_of_ble_eq_true rfl) (by omega) (fun r_7 X1 M1 K1 h_8 => ?_)
          obtain ⟨rfl, hX1, hM1, hK1⟩ := h_8
          subst X1 M1 K1
          refine g_isub C dL_isLogged_121 ?_
          refine g_if_lt C dL_isLogged_122 (tgt := 142) (by decide) (fun c_122 => absurd c_122 hn.diff) (fun c_122 => ?_)
          refine g_aload_n C dL_isLogged_125 4 rfl ?_
          refine gf_L_o C tw363 dL_isLogged_126 ?_
          refine g_bipush C dL_isLogged_129 (v := 70) (by decide) ?_
          refine g_callViW C dL_isLogged_131 (c_X10_logged _ _ _ _ _ _ _ _ _ 70 hcap (by show (K.2.2.1 0).length < 2 ^ 26; omega)) tw1337 tw1338 tw1339 tw1 tw1340 (rv_X10 C) rfl ⟨by decide +kernel, by decide +kernel, rfl⟩ ⟨rfl, rfl⟩ (by rw [hR]; exact ⟨Nat.le_of_ble_eq_true rfl, Nat.le_of_ble_eq_true rfl⟩) (Nat.le_of_ble_eq_true rfl) (by omega) (fun r_9 X1 M1 K1 h_10 => ?_)
          obtain ⟨rfl, hX1, hM1, hK1⟩ := h_10
          subst X1 M1 K1
          refine g_iconst C dL_isLogged_134 (v := 1) (by decide) ?_
          refine g_icmp_gt C dL_isLogged_135 (tgt := 142) (by decide) (fun c_135 => absurd c_135 hn.one) (fun c_135 => ?_)
          refine g_iconst C dL_isLogged_138 (v := 1) (by decide) ?_
          refine g_goto C dL_isLogged_139 (tgt := 143) (by decide) ?_
          refine g_dropAll hE ?_
          refine g_zretW C hr (by decide) hQ (by omega) (by omega) dL_isLogged_143 ?_
          exact ⟨rfl, rfl, rfl, rfl⟩
        | succ n ih =>
          intro j hi
          refine g_iload C dL_isLogged_55 0 rfl ?_
          refine g_bipush C dL_isLogged_57 (v := 8) (by decide) ?_
          refine g_icmp_ge C dL_isLogged_59 (tgt := 85) (by decide) (fun c_59 => absurd c_59 (nI_ge (a := j) (b := 8) (by omega) (by omega))) (fun c_59 => ?_)
          refine g_iload_n C dL_isLogged_62 1 rfl ?_
          refine g_aload_n C dL_isLogged_63 4 rfl ?_
          refine gf_L_o C tw363 dL_isLogged_64 ?_
          refine g_kldc1002 C dL_isLogged_67 ?_
          refine g_iload C dL_isLogged_69 0 rfl ?_
          refine g_callKiP2 C rfl (c2_J0_charAt_5068e _ _ _ _ _ _ j (by omega)) tw1116 tw1117 tw1118 tw14 tw1119 rfl ⟨by decide +kernel, by decide +kernel, rfl⟩ ⟨rfl, rfl⟩ (by rw [hR]; exact ⟨Nat.le_of_ble_eq_true rfl, Nat.le_of_ble_eq_true rfl⟩) (Nat.le_of_ble_eq_true rfl) dL_isLogged_71 (by omega) (fun r_11 h_12 => ?_)
          refine g_topi (y := ltrB.getD j 0) h_12 ?_
          refine g_callViW C dL_isLogged_74 (c_X10_logged _ _ _ _ _ _ _ _ _ (ltrB.getD j 0) hcap (by show (K.2.2.1 0).length < 2 ^ 26; omega)) tw1337 tw1338 tw1339 tw1 tw1340 (rv_X10 C) rfl ⟨by decide +kernel, by decide +kernel, rfl⟩ ⟨rfl, rfl⟩ (by rw [hR]; exact ⟨Nat.le_of_ble_eq_true rfl, Nat.le_of_ble_eq_true rfl⟩) (Nat.le_of_ble_eq_true rfl) (by omega) (fun r_13 X1 M1 K1 h_14 => ?_)
          obtain ⟨rfl, hX1, hM1, hK1⟩ := h_14
          subst X1 M1 K1
          refine g_iadd C dL_isLogged_77 ?_
          refine g_topi rfl ?_
          refine g_istore_n C dL_isLogged_78 (L' := [(3, .int (tmN (K.2.2.1 0) (j + 1))), (4, .int (nI j)), (2, .int (lgN (K.2.2.1 0) (K.2.2.1 0).length)), (1, .ref s), (0, .ref (gad G 42))]) rfl (by rw [hL]; decide) ?_
          refine g_iinc C dL_isLogged_79 1 rfl (v := nI (j + 1)) (nI_1 _) (L' := [(4, .int (nI (j + 1))), (3, .int (tmN (K.2.2.1 0) (j + 1))), (2, .int (lgN (K.2.2.1 0) (K.2.2.1 0).length)), (1, .ref s), (0, .ref (gad G 42))]) rfl (by rw [hL]; decide) ?_
          refine g_goto C dL_isLogged_82 (tgt := 55) (by decide) ?_
          exact g_sub [0, 1, 2, 3, 4] rfl (ih (j + 1) (by omega))
      exact g_sub [0, 1, 2, 3, 4] rfl (lp55 (8) 0 (by omega))
    | succ n ih =>
      intro i hi
      refine g_iload_n C dL_isLogged_12 0 rfl ?_
      refine g_aload_n C dL_isLogged_13 2 rfl ?_
      refine g_callKiPE hStr C rfl (cE_J0_length_8abf5 _ _ _ _ _ _ _ _ _ _ hStr (by omega)) tw1289 tw1248 tw1249 tw14 tw1250 rfl ⟨by decide +kernel, by decide +kernel, rfl⟩ ⟨rfl, rfl⟩ (by rw [hR]; exact ⟨Nat.le_of_ble_eq_true rfl, Nat.le_of_ble_eq_true rfl⟩) (Nat.le_of_ble_eq_true rfl) dL_isLogged_14 (by omega) (fun r_15 h_16 => ?_)
      refine g_topi (y := nI (K.2.2.1 0).length) h_16 ?_
      refine g_icmp_ge C dL_isLogged_17 (tgt := 50) (by decide) (fun c_17 => absurd c_17 (nI_ge (a := i) (b := (K.2.2.1 0).length) (by omega) (by omega))) (fun c_17 => ?_)
      refine g_iload_n C dL_isLogged_20 1 rfl ?_
      refine g_kldc1002 C dL_isLogged_21 ?_
      refine g_aload_n C dL_isLogged_23 2 rfl ?_
      refine g_iload_n C dL_isLogged_24 0 rfl ?_
      refine g_callKiPE hStr C rfl (cE_J0_charAt_5068e _ _ _ _ _ _ _ _ _ _ hStr (by omega) i (by omega) ((K.2.2.1 0).getD i 0) (hch i) (hf i (by omega))) tw1116 tw1117 tw1118 tw14 tw1119 rfl ⟨by decide +kernel, by decide +kernel, rfl⟩ ⟨rfl, rfl⟩ (by rw [hR]; exact ⟨Nat.le_of_ble_eq_true rfl, Nat.le_of_ble_eq_true rfl⟩) (Nat.le_of_ble_eq_true rfl) dL_isLogged_25 (by omega) (fun r_17 h_18 => ?_)
      refine g_topi (y := nI ((K.2.2.1 0).getD i 0)) h_18 ?_
      refine g_callKiP2 C rfl (c2_J0_indexOf_0f7a4 _ _ _ _ _ _ _) tw1291 tw1292 tw1293 tw14 tw1294 rfl ⟨by decide +kernel, by decide +kernel, rfl⟩ ⟨rfl, rfl⟩ (by rw [hR]; exact ⟨Nat.le_of_ble_eq_true rfl, Nat.le_of_ble_eq_true rfl⟩) (Nat.le_of_ble_eq_true rfl) dL_isLogged_28 (by omega) (fun r_19 h_20 => ?_)
      refine g_topi (y := kz ltrB 8 (nI ((K.2.2.1 0).getD i 0))) h_20 ?_
      refine g_if_lt C dL_isLogged_31 (tgt := 38) (by decide) (fun c_31 => ?_) (fun c_31 => ?_)
      · try simp only [sa_ap, si_ap, reduceIte, Nat.reduceEqDiff, up_us, lg_cmp_lt, lg_cmp_gt, lg_cmp_le, lg_cmp_ge] at c_31
        refine g_iconst C dL_isLogged_38 (v := 0) (by decide) ?_
        refine g_callSiW C dL_isLogged_39 (c_L_told_0 _ _ _ _ _ _ _ _ _ ) tw534 tw535 tw0 tw536 rfl ⟨by decide +kernel, by decide +kernel, rfl⟩ ⟨rfl, rfl⟩ (by rw [hR]; exact ⟨Nat.le_of_ble_eq_true rfl, Nat.le_of_ble_eq_true rfl⟩) (Nat.le_of_ble_eq_true rfl) (by omega) (fun r_21 X1 M1 K1 h_22 => ?_)
        obtain ⟨rfl, hX1, hM1, hK1⟩ := h_22
        subst X1 M1 K1
        refine g_iadd C dL_isLogged_42 ?_
        refine g_topi (y := lgN (K.2.2.1 0) (i + 1)) (by first | exact congrArg (fun z => lgN (K.2.2.1 0) i + z) (if_pos c_31).symm | exact congrArg (fun z => lgN (K.2.2.1 0) i + z) (if_neg c_31).symm) ?_
        refine g_istore_n C dL_isLogged_43 (L' := [(2, .int (lgN (K.2.2.1 0) (i + 1))), (3, .int (nI i)), (1, .ref s), (0, .ref (gad G 42))]) rfl (by rw [hL]; decide) ?_
        refine g_iinc C dL_isLogged_44 1 rfl (v := nI (i + 1)) (nI_1 _) (L' := [(3, .int (nI (i + 1))), (2, .int (lgN (K.2.2.1 0) (i + 1))), (1, .ref s), (0, .ref (gad G 42))]) rfl (by rw [hL]; decide) ?_
        refine g_goto C dL_isLogged_47 (tgt := 12) (by decide) ?_
        exact g_sub [0, 1, 2, 3] rfl (ih (i + 1) (by omega))
      · try simp only [sa_ap, si_ap, reduceIte, Nat.reduceEqDiff, up_us, lg_cmp_lt, lg_cmp_gt, lg_cmp_le, lg_cmp_ge] at c_31
        refine g_iconst C dL_isLogged_34 (v := 1) (by decide) ?_
        refine g_goto C dL_isLogged_35 (tgt := 39) (by decide) ?_
        refine g_callSiW C dL_isLogged_39 (c_L_told_1 _ _ _ _ _ _ _ _ _ ) tw534 tw535 tw0 tw536 rfl ⟨by decide +kernel, by decide +kernel, rfl⟩ ⟨rfl, rfl⟩ (by rw [hR]; exact ⟨Nat.le_of_ble_eq_true rfl, Nat.le_of_ble_eq_true rfl⟩) (Nat.le_of_ble_eq_true rfl) (by omega) (fun r_23 X1 M1 K1 h_24 => ?_)
        obtain ⟨rfl, hX1, hM1, hK1⟩ := h_24
        subst X1 M1 K1
        refine g_iadd C dL_isLogged_42 ?_
        refine g_topi (y := lgN (K.2.2.1 0) (i + 1)) (by first | exact congrArg (fun z => lgN (K.2.2.1 0) i + z) (if_pos c_31).symm | exact congrArg (fun z => lgN (K.2.2.1 0) i + z) (if_neg c_31).symm) ?_
        refine g_istore_n C dL_isLogged_43 (L' := [(2, .int (lgN (K.2.2.1 0) (i + 1))), (3, .int (nI i)), (1, .ref s), (0, .ref (gad G 42))]) rfl (by rw [hL]; decide) ?_
        refine g_iinc C dL_isLogged_44 1 rfl (v := nI (i + 1)) (nI_1 _) (L' := [(3, .int (nI (i + 1))), (2, .int (lgN (K.2.2.1 0) (i + 1))), (1, .ref s), (0, .ref (gad G 42))]) rfl (by rw [hL]; decide) ?_
        refine g_goto C dL_isLogged_47 (tgt := 12) (by decide) ?_
        exact g_sub [0, 1, 2, 3] rfl (ih (i + 1) (by omega))
  exact g_sub [0, 1, 2, 3] rfl (lp12 ((K.2.2.1 0).length) 0 (by omega))

