/-! the law: its rows -/
def LawG (G : MC) (b Ln : Nat) (xs : Nat → Int32) : Prop := Cx G cL_law RL ∧ (gl G).stackTraces = false ∧ NcU (gs G) ∧ va_X b Ln xs (gs G) (gs G).heap ∧ b < (gs G).heap.size ∧ ¬ gA G b ∧ Ln ≤ 3072 ∧ gR G = room_1 ∧ gL G = 9
def bz (x : Int32) : Int32 := if x = 0 then 0 else 1
theorem bz_bo (x : Int32) : isBo (bz x) := by
  unfold bz
  split
  · exact isBo_0
  · exact isBo_1
def lcc (x : Int32) : Int32 := (x.toUInt32 % 65536).toInt32
theorem lcc_ch (x : Int32) : isCh (lcc x) := by
  have h := fits_narrow_char (x.toUInt32 % 65536).toInt32
  rw [pk_nc] at h
  exact ⟨pk_nc x, h⟩
theorem lg_self (x : Int64) : lg_cmp x x = 0 := by
  have h : ¬ x > x := by
    rw [gt_iff_lt, Int64.lt_iff_toInt_lt]
    omega
  unfold lg_cmp
  rw [if_neg h, if_pos rfl]
theorem bo_if {x : Int32} (h : isBo x) : (if x = 0 then (0 : Int32) else 1) = x := by
  rcases h with rfl | rfl <;> decide
theorem xb_ix {p : Int32} {z : Nat} (hz : z < 2 ^ 31) (h : xk_b p (nI z) = 0) : p.toNatClampNeg < z := by
  unfold xk_b at h
  obtain ⟨j, hj, -, e⟩ := ix_of (p := p) hz (fun q => by rw [if_pos q] at h; exact absurd h (by decide))
  rw [e]
  exact hj
section
variable {G : MC} {cc : ByteArray} {own : String} {Wp : Heap → Prop} {L : List (Nat × Value)} {k n pc b Ln : Nat} {xs : Nat → Int32} {stk : List Value}
theorem g_scr (C : Cx G cc own) (hX : va_X b Ln xs (gs G) (gs G).heap) (hb : b < (gs G).heap.size) (hbA : ¬ gA G b) {j : Nat} (hj : j < Ln) (hLn : Ln < 2 ^ 31) (d : decode cc pc = .ok (.iaload, 1)) (kk : GH G Wp L k n (pc + 1) (.int (xs j) :: stk)) : GH G Wp L k n pc (.int (nI j) :: .ref b :: stk) := by
  intro H locs ls hl hw hS
  refine va_sld C.x C.b hX hb hbA hS (vp_in_nI hj hLn) d ?_
  rw [nI_clamp (by omega)]
  exact kk H locs ls hl hw hS
theorem g_slen (C : Cx G cc own) (hX : va_X b Ln xs (gs G) (gs G).heap) (hb : b < (gs G).heap.size) (hbA : ¬ gA G b) (d : decode cc pc = .ok (.arraylength, 1)) (kk : GH G Wp L k n (pc + 1) (.int (nI Ln) :: stk)) : GH G Wp L k n pc (.ref b :: stk) := fun H locs ls hl hw hS => va_slen C.x C.b hX hb hbA hS d (kk H locs ls hl hw hS)
theorem g_lcmpe (C : Cx G cc own) {x y : Int64} (e : x = y) (d : decode cc pc = .ok (.lcmp, 1)) (kk : GH G Wp L k n (pc + 1) (.int 0 :: stk)) : GH G Wp L k n pc (.long y :: .long x :: stk) := by
  subst e
  refine g_lcmp C d ?_
  rw [lg_self]
  exact kk
theorem g_dcmpe (C : Cx G cc own) {x y : UInt64} {op : CmpOp} (e : FP.dcmp x y = some .eq) (d : decode cc pc = .ok (.dcmp op, 1)) (kk : GH G Wp L k n (pc + 1) (.int 0 :: stk)) : GH G Wp L k n pc (.double y :: .double x :: stk) := by
  refine g_dcmp C d ?_
  rw [e]
  cases op <;> exact kk
theorem g_topd {x y : UInt64} (e : x = y) (h : GH G Wp L k n pc (.double y :: stk)) : GH G Wp L k n pc (.double x :: stk) := by subst e; exact h
theorem g_topf {x y : UInt32} (e : x = y) (h : GH G Wp L k n pc (.float y :: stk)) : GH G Wp L k n pc (.float x :: stk) := by subst e; exact h
theorem g_tin (C : Cx G cc own) {dflt lo hi : Int} {offs : Array Int} {len : Nat} {x : Int32} {off : Int} {tgt : Nat} (d : decode cc pc = .ok (.tableswitch dflt lo hi offs, len)) (h1 : ¬ x.toInt < lo) (h2 : ¬ hi < x.toInt) (ho : offs[(x.toInt - lo).toNat]? = some off) (ht : (pc : Int) + off = (tgt : Int)) (kk : GH G Wp L k n tgt stk) : GH G Wp L k n pc (.int x :: stk) := fun H locs ls hl hw hS => lv_tableIn C.x C.b d h1 h2 ho ht (kk H locs ls hl hw hS)
theorem g_tout (C : Cx G cc own) {dflt lo hi : Int} {offs : Array Int} {len : Nat} {x : Int32} {tgt : Nat} (d : decode cc pc = .ok (.tableswitch dflt lo hi offs, len)) (h : x.toInt < lo ∨ hi < x.toInt) (ht : (pc : Int) + dflt = (tgt : Int)) (kk : GH G Wp L k n tgt stk) : GH G Wp L k n pc (.int x :: stk) := fun H locs ls hl hw hS => lv_tableOut C.x C.b d h ht (kk H locs ls hl hw hS)
end
section
variable {G : MC} {cc bytes : ByteArray} {own : String} {X M : XF} {K : KF} {L : List (Nat × Value)} {k n pc maxL idx mc ms : Nat} {ret : Option FieldType} {hh : List (Nat × Nat × Nat × Nat)} {As rest st0 : List Value} {y : MethodName} {rm : Room}
theorem g_callH {pst : Int32 → XF → XF → KF → Prop} (C : Cx G cc own) (hN : NcU (gs G)) (hM : Met (gl G) y (wsH y bytes maxL ret hh) rm (PcL (gD G) (gcy G) (gA G) (gad G) (gsa G) X M K As) (QiW (gD G) (gcy G) (gA G) (gad G) pst) mc ms (gA G)) (hlk : Cond.methodLink own idx y ∈ lw_all) (hst : Cond.static y ∈ lw_all) (hini : Cond.initialized y.cls ∈ lw_all) (hco : Cond.codeWith y bytes maxL ret hh ∈ lw_all) (hst0 : st0 = As.reverse ++ rest) (hd : y.cls ≠ "java/lang/invoke/MethodHandle" ∧ y.cls ≠ "java/lang/invoke/VarHandle" ∧ (parseMethodDescriptor y.desc).map (fun d => d.parameters.length) = some As.length) (hrm : rm.cells = mc ∧ rm.slots = ms) (hR : rm.frames + 1 ≤ (gR G).frames ∧ 8 + (maxL + 11) + rm.locals ≤ (gR G).locals) (hW : (rest.map fun v => v.category).sum ≤ 8) (d : decode cc pc = .ok (.invokestatic idx, 3)) (hf : k + mc ≤ (gR G).cells ∧ n + ms ≤ (gR G).slots) (kk : ∀ (r : Int32) (X' M' : XF) (K' : KF), pst r X' M' K' → GH G (WX G X' M' K') L (k + mc) (n + ms) (pc + 3) (.int r :: rest)) : GH G (WX G X M K) L k n pc st0 := by
  intro H locs ls hl hw hS
  exact va_calli (vx_runSW (As := As) (rest := rest) C.fix hM (vx_cwSW As.length C.ts (goodS hlk hst hini (goodH hco)) rfl hrm.1 hrm.2 hd hR) ⟨PcL.blind, fun U hU hW => PcL.at C hN hw hS hU hW⟩ rfl rfl hl.1 hst0 (lv_room hW) d hf) hS (fun q _ h => h) (fun q h => h) (fun r u t H1 locs1 ht hvm hp hB hz hk hS1 => kk r u.1 u.2.1 u.2.2 hp H1 locs1 ls hl (by rw [← ht]; exact hB) hS1)
end
section
variable {c v z z5 z8 zs : Nat} {X M : XF} {K : KF}
theorem Inv.one (I : Inv c v z z5 z8 zs X M K) (hc : c < 512) (ch : Nat) : 16 ≤ (kLs K 0 v [ch]).2.1 0 ∧ (kLs K 0 v [ch]).2.1 0 ≤ 1616384 ∧ (kLs K 0 v [ch]).2.1 4 ≤ 16 ∧ (kLs K 0 v [ch]).2.1 6 ≤ 3232768 := by
  have hv := I.rel.lv
  obtain ⟨L, h1, h2⟩ := I.2.2.2.2.1
  have ok := okT.ls (v := v) (by omega) [ch] I.2.2.1
  have el := ls_len (v := v) (by omega) [ch] (sd 0 K)
  have lb : (sd 0 K).1.length = (K.2.2.1 0).length := rfl
  have l1 : [ch].length = 1 := rfl
  rw [← sd_ls0 v [ch] K] at ok el
  exact okT.num ok (by omega)
theorem Inv.one1 (I : Inv c v z z5 z8 zs X M K) (hc : c < 512) (ch : Nat) {K2 : KF} (h : sd 1 K2 = sd 1 K) : 16 ≤ (kLs K2 1 v [ch]).2.1 1 ∧ (kLs K2 1 v [ch]).2.1 1 ≤ 1616384 ∧ (kLs K2 1 v [ch]).2.1 5 ≤ 16 ∧ (kLs K2 1 v [ch]).2.1 7 ≤ 3232768 := by
  have hv := I.rel.lv
  obtain ⟨L, h1, h2⟩ := I.2.2.2.2.1
  have ok := okT.ls (v := v) (by omega) [ch] I.2.2.1
  have el := ls_len (v := v) (by omega) [ch] (sd 0 K)
  have lb : (sd 0 K).1.length = (K.2.2.1 0).length := rfl
  have l1 : [ch].length = 1 := rfl
  rw [I.2.1, ← h, ← sd_ls1 v [ch] K2] at ok
  rw [I.2.1, ← h, ← sd_ls1 v [ch] K2] at el
  rw [I.2.1, ← h] at lb
  exact okT.num ok (by omega)
theorem sd_n {w : Nat} {K K' : KF} (h : sd w K' = sd w K) : K'.2.1 w = K.2.1 w ∧ K'.2.1 (4 + w) = K.2.1 (4 + w) ∧ K'.2.1 (6 + w) = K.2.1 (6 + w) := by
  have q1 := congrArg (fun s => s.2.1) h
  have q2 := congrArg (fun s => s.2.2.1) h
  have q3 := congrArg (fun s => s.2.2.2) h
  exact ⟨q1, q2, q3⟩
end
/-- behind a call: c + 1 of them have been made -/
def LwS (G : MC) (b c : Nat) : Prop := ∀ (v z z5 z8 zs : Nat) (X M : XF) (K : KF) (k n : Nat), Inv (c + 1) v z z5 z8 zs X M K → rmO (c + 1) K k n → GH G (WX G X M K) [(0, .ref b), (1, .ref (gad G 0)), (2, .ref (gad G 42)), (3, .ref (gad G 74)), (4, .ref (gad G 75)), (5, .int (nI (6 * c)))] k n 2415 []
theorem gs_s0 (z zs z5 z8 v : Nat) (M : XF) (K : KF) : ∀ i, sd 0 (gs_P z zs z5 z8 v M K i).2 = sd 0 K ∧ rsK (gs_P z zs z5 z8 v M K i).2 = rsK K
  | 0 => ⟨rfl, rfl⟩
  | i + 1 => by
    have ih := gs_s0 z zs z5 z8 v M K i
    show sd 0 (kLs _ 1 _ _) = _ ∧ rsK (kLs _ 1 _ _) = _
    rw [sd_ls10, rs_ls 1 (by omega)]
    exact ih
theorem gs_100 (z zs z5 z8 v : Nat) (M : XF) (K : KF) : ∀ i, (gs_P z zs z5 z8 v M K i).1 100 = M 100
  | 0 => rfl
  | i + 1 => by
    have ih := gs_100 z zs z5 z8 v M K i
    show (gp_A (v + i) z zs z5 z8 (gs_P z zs z5 z8 v M K i).1 (gs_P z zs z5 z8 v M K i).2).1 100 = _
    rw [gp_A_k _ _ _ _ _ _ _ (by decide), ih]
theorem pass_hi {v : Nat} {p1 : Int32} (hv : v ≤ 100000) (h : xk_pass (nI v) p1 = 0) : v + p1.toNatClampNeg ≤ 100000 := by
  unfold xk_pass at h
  have h1 : ¬ inr 1 600 p1 = 0 := fun q => by rw [if_pos q] at h; exact absurd h (by decide)
  rw [if_neg h1] at h
  obtain ⟨nn, g1, g2, rfl⟩ := inr_ix h1
  rw [nI_clamp (by omega)]
  rw [nI_add] at h
  split at h
  · rename_i q
    rw [show (100000 : Int32) = nI 100000 from rfl, nI_leI (by omega) (by omega)] at q
    exact q
  · exact absurd h (by decide)
