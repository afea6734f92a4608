/-! the beginning: what the entry gives -/
theorem sel_up {C : String} {y : MethodName} {s : State} {args : Array Value} {n : Nat} (hy : y.cls ≠ "java/lang/invoke/MethodHandle" ∧ y.cls ≠ "java/lang/invoke/VarHandle") (hins : (Cond.instantiable C n).before args s = true) (hpriv : (Cond.privateMethod y).before args s = true) (hinst : (Cond.instanceMethod y).before args s = true) (hsame : (Cond.sameMethod y.cls y.cls y.name y.desc).before args s = true) : (Cond.selects C y y).before args s = true := by
  obtain ⟨c, k, hc, hk, -, -, -, -⟩ := Cond.instantiable_spec hins
  obtain ⟨c2, ck, m', hc2, hck, hni, -, -⟩ := Cond.sameMethod_found hsame
  obtain ⟨mk, methM, hnamed, hmethM, -, -⟩ := Cond.instanceMethod_spec hinst
  have hfound : s.methodFound? y.cls y.name y.desc = some mk := State.methodFound?_of_named hnamed hy
  have hcls : mk.cls = c2 := Option.some.inj ((findClass_of_methodNamed hnamed).symm.trans hc2)
  have hsel : selectMethod {} s.vm c mk = .method mk := selectMethod_private hmethM (Cond.privateMethod_at hpriv mk methM hnamed hmethM)
  simp only [Cond.before, Cond.holds, Cond.value, hc, hfound, hnamed, hsel, hcls, hck]
  simp
  exact hni
def fl1 : List Cond := flatC (Cond.and given_1 narrow_1)
theorem fl_in {c : Cond} (i : Nat) (h : fl1[i]? = some c) : c ∈ flatC (Cond.and given_1 narrow_1) := List.mem_of_getElem? h
theorem tb_in {c : Cond} (i : Nat) (h : tables_1[i]? = some c) : c ∈ lw_tbl := List.mem_append_right _ (List.mem_of_getElem? h)
set_option maxRecDepth 100000 in
theorem fl_ones : ∀ j : Nat, j < 100 → fl1[10 + j]? = some (Cond.eq (.elem (.static "java/lang/Integer" "DigitOnes" "[B") (.int (Int32.ofNat j))) (.int (nI (48 + j % 10)))) := by decide +kernel
set_option maxRecDepth 100000 in
theorem fl_tens : ∀ j : Nat, j < 100 → fl1[113 + j]? = some (Cond.eq (.elem (.static "java/lang/Integer" "DigitTens" "[B") (.int (Int32.ofNat j))) (.int (nI (48 + j / 10)))) := by decide +kernel
def txF : List Nat := [311, 353, 369, 412, 437, 465, 481, 519, 546, 596, 624, 642, 675, 703, 735, 786, 817, 833, 852, 896, 935, 978, 994, 1031, 1063, 1090, 1112, 1149, 1176]
def txW : List Nat := [515, 533, 541, 550, 572, 596, 600, 601, 620, 640, 665, 670, 676, 681, 706, 707, 716, 717, 726, 727, 744, 890, 891, 904, 905, 1054, 1076, 1087, 1099]
set_option maxRecDepth 100000 in
theorem fl_tx : ∀ i : Nat, i < 29 → fl1[txF.getD i 0]? = some (Cond.exactly (.string "LaunchRange" (txN.getD i (0, "")).1) "java/lang/String") := by decide +kernel
set_option maxRecDepth 100000 in
theorem tb_tx : ∀ i : Nat, i < 29 → tables_1[txW.getD i 0]? = some (Cond.stringRef "LaunchRange" (txN.getD i (0, "")).1 (txN.getD i (0, "")).2) := by decide +kernel
set_option maxRecDepth 100000 in
theorem fl_knd : ∀ j : Nat, j < 6 → fl1[1196 + j]? = some (Cond.eq (.elem (.field (.string "LaunchRangeLaw" 186) "java/lang/String" "value" "[B") (.int (Int32.ofNat j))) (.int (kndB.getD j 0))) := by decide +kernel
theorem fl_k0 : Cond.exactly (.string "LaunchRangeLaw" 186) "java/lang/String" ∈ flatC (Cond.and given_1 narrow_1) := fl_in 1192 (by decide +kernel)
theorem fl_k1 : Cond.eq (.field (.string "LaunchRangeLaw" 186) "java/lang/String" "coder" "B") (.int 0) ∈ flatC (Cond.and given_1 narrow_1) := fl_in 1193 (by decide +kernel)
theorem fl_k2 : Cond.arrayOf (.field (.string "LaunchRangeLaw" 186) "java/lang/String" "value" "[B") .byte ∈ flatC (Cond.and given_1 narrow_1) := fl_in 1194 (by decide +kernel)
theorem fl_k3 : Cond.eq (.length (.field (.string "LaunchRangeLaw" 186) "java/lang/String" "value" "[B")) (.int (Int32.ofNat 6)) ∈ flatC (Cond.and given_1 narrow_1) := fl_in 1195 (by decide +kernel)
set_option maxRecDepth 100000 in
theorem fl_ltr : ∀ j : Nat, j < 8 → fl1[1213 + j]? = some (Cond.eq (.elem (.field (.string "LaunchRangeLaw" 250) "java/lang/String" "value" "[B") (.int (Int32.ofNat j))) (.int (ltrB.getD j 0))) := by decide +kernel
theorem fl_m0 : Cond.exactly (.string "LaunchRangeLaw" 250) "java/lang/String" ∈ flatC (Cond.and given_1 narrow_1) := fl_in 1209 (by decide +kernel)
theorem fl_m1 : Cond.eq (.field (.string "LaunchRangeLaw" 250) "java/lang/String" "coder" "B") (.int 0) ∈ flatC (Cond.and given_1 narrow_1) := fl_in 1210 (by decide +kernel)
theorem fl_m2 : Cond.arrayOf (.field (.string "LaunchRangeLaw" 250) "java/lang/String" "value" "[B") .byte ∈ flatC (Cond.and given_1 narrow_1) := fl_in 1211 (by decide +kernel)
theorem fl_m3 : Cond.eq (.length (.field (.string "LaunchRangeLaw" 250) "java/lang/String" "value" "[B")) (.int (Int32.ofNat 8)) ∈ flatC (Cond.and given_1 narrow_1) := fl_in 1212 (by decide +kernel)
theorem fl_o1 : Cond.arrayOf (.static "java/lang/Integer" "DigitOnes" "[B") .byte ∈ flatC (Cond.and given_1 narrow_1) := fl_in 8 (by decide +kernel)
theorem fl_o2 : Cond.eq (.length (.static "java/lang/Integer" "DigitOnes" "[B")) (.int (Int32.ofNat 100)) ∈ flatC (Cond.and given_1 narrow_1) := fl_in 9 (by decide +kernel)
theorem fl_t1 : Cond.arrayOf (.static "java/lang/Integer" "DigitTens" "[B") .byte ∈ flatC (Cond.and given_1 narrow_1) := fl_in 111 (by decide +kernel)
theorem fl_t2 : Cond.eq (.length (.static "java/lang/Integer" "DigitTens" "[B")) (.int (Int32.ofNat 100)) ∈ flatC (Cond.and given_1 narrow_1) := fl_in 112 (by decide +kernel)
theorem fl_cs : Cond.eq (.static "java/lang/String" "COMPACT_STRINGS" "Z") (.int 1) ∈ flatC (Cond.and given_1 narrow_1) := fl_in 4 (by decide +kernel)
theorem fl_si : Cond.isRef (.static "jdk/internal/util/Preconditions" "SIOOBE_FORMATTER" fmtD) ∈ flatC (Cond.and given_1 narrow_1) := fl_in 213 (by decide +kernel)
theorem fl_us : Cond.isRef (.static Bundle.tN "UNASSIGNED_STACK" Bundle.steD) ∈ flatC (Cond.and given_1 narrow_1) := fl_in 5 (by decide +kernel)
theorem fl_ss : Cond.isRef (.static Bundle.tN "SUPPRESSED_SENTINEL" Bundle.listD) ∈ flatC (Cond.and given_1 narrow_1) := fl_in 6 (by decide +kernel)
set_option maxRecDepth 100000 in
theorem fl_nc : ∀ q ∈ ncL, Cond.not (.castable q.1 q.2) ∈ fl1 := by decide +kernel
set_option maxRecDepth 100000 in
theorem tb_cast : ∀ q ∈ castL, Cond.castable q.1 q.2 ∈ tables_1 := by decide +kernel
set_option maxRecDepth 100000 in
theorem tb_decl : ∀ q ∈ declL, Cond.declares q ∈ tables_1 := by decide +kernel
set_option maxRecDepth 100000 in
theorem tb_nest : ∀ q ∈ nestL, Cond.methodLinkNest q.1 q.2.1 q.2.2.1 q.2.2.2 ∈ tables_1 := by decide +kernel
set_option maxRecDepth 100000 in
theorem tb_sel : ∀ q ∈ selL, (q.cls ≠ "java/lang/invoke/MethodHandle" ∧ q.cls ≠ "java/lang/invoke/VarHandle") ∧ Cond.privateMethod q ∈ tables_1 ∧ Cond.instanceMethod q ∈ tables_1 ∧ Cond.sameMethod q.cls q.cls q.name q.desc ∈ tables_1 := by decide +kernel
theorem tb_us : Cond.laysStatic Bundle.tN "UNASSIGNED_STACK" Bundle.steD ∈ lw_tbl := tb_in 428 (by decide +kernel)
theorem tb_ss : Cond.laysStatic Bundle.tN "SUPPRESSED_SENTINEL" Bundle.listD ∈ lw_tbl := tb_in 430 (by decide +kernel)
theorem tb_it : Cond.initialized Bundle.tN ∈ lw_tbl := tb_in 16 (by decide +kernel)
theorem tb_cs : Cond.laysStatic "java/lang/String" "COMPACT_STRINGS" "Z" ∈ lw_tbl := tb_in 289 (by decide +kernel)
theorem tb_is : Cond.initialized "java/lang/String" ∈ lw_tbl := tb_in 14 (by decide +kernel)
theorem tb_si : Cond.laysStatic "jdk/internal/util/Preconditions" "SIOOBE_FORMATTER" fmtD ∈ lw_tbl := tb_in 827 (by decide +kernel)
theorem tb_ip : Cond.initialized "jdk/internal/util/Preconditions" ∈ lw_tbl := tb_in 30 (by decide +kernel)
theorem tb_do : Cond.laysStatic "java/lang/Integer" "DigitOnes" "[B" ∈ lw_tbl := tb_in 811 (by decide +kernel)
theorem tb_dt : Cond.laysStatic "java/lang/Integer" "DigitTens" "[B" ∈ lw_tbl := tb_in 813 (by decide +kernel)
theorem tb_ii : Cond.initialized "java/lang/Integer" ∈ lw_tbl := tb_in 25 (by decide +kernel)
theorem tb_sb : Cond.instantiable "java/lang/StringBuilder" 4 ∈ lw_tbl := tb_in 280 (by decide +kernel)
theorem tb_kn : Cond.stringRef "LaunchRangeLaw" 186 "tswlbg" ∈ lw_tbl := tb_in 1115 (by decide +kernel)
theorem tb_lt : Cond.stringRef "LaunchRangeLaw" 250 "CHGRSFXO" ∈ lw_tbl := tb_in 1290 (by decide +kernel)
theorem st_l6 : ∀ i : Nat, i < 1 → ([6] : List Nat).getD i 0 < 2 ^ 31 := by decide
theorem st_l8 : ∀ i : Nat, i < 1 → ([8] : List Nat).getD i 0 < 2 ^ 31 := by decide
theorem nI_back (x : Int32) : nI x.toUInt32.toNat = x := by
  show Int32.ofNat x.toUInt32.toNat = x
  first
    | exact congrArg Int32.ofUInt32 (UInt32.ofNat_toNat (x := x.toUInt32))
    | (simp [Int32.ofNat]; done)
    | (apply Int32.toBitVec_inj.mp; simp)
theorem va_TX {b L : Nat} {xs : Nat → Int32} {A : Nat → Prop} {U : State} {H : Heap} (h : va_X b L xs U H) (hA : ¬ A b) : va_T .int b L (fun j => .int (xs j)) A U H := by
  obtain ⟨c, h1, h2, h3, h4, h5⟩ := h
  exact ⟨c, h1, h2, h3, Nat.le_of_eq h4.symm, by rw [h4], h5, hA⟩
theorem st_gl {b Ln : Nat} {xs : Nat → Int32} {s : State} {A : Nat → Prop} (hts : ∀ w ∈ lw_tbl, w.before #[Value.ref b] s = true) (hs : ∀ c ∈ flatC (Cond.and given_1 narrow_1), c.before #[Value.ref b] s = true) (hX : va_X b Ln xs s s.heap) (hLn : Ln < 2 ^ 31) (hA : ∀ a : Nat, a < s.heap.size → ¬ A a) (hb : b < s.heap.size) : ∃ sad : Nat → Nat, sad 900 = b ∧ Gl A sad s s.heap := by
  have hE : ∀ i : Nat, ∃ a : Nat, i < 29 → (Term.string "LaunchRange" (txN.getD i (0, "")).1).eval #[Value.ref b] s none [] s = some (.ref a) := by
    intro i
    by_cases hi : i < 29
    · obtain ⟨a, c, cA, kA, q1, -⟩ := Cond.exactly_spec (args := #[Value.ref b]) (first := s) (o := none) (s := s) (idx := []) (hs _ (fl_in _ (fl_tx i hi)))
      exact ⟨a, fun _ => q1⟩
    · exact ⟨0, fun h => absurd h hi⟩
  obtain ⟨f, hf⟩ := Classical.axiomOfChoice hE
  obtain ⟨aK, aV, aS, haK⟩ := vk_Sof (args := #[Value.ref b]) (s := s) (N := 1) (tm := fun _ => .string "LaunchRangeLaw" 186) (len := [6]) (byt := [kndB]) (A := A) st_l6 (fun i hi => hs _ fl_k0) (fun i hi => hs _ fl_k1) (fun i hi => hs _ fl_k2) (fun i hi => by
    obtain rfl : i = 0 := by omega
    exact hs _ fl_k3) (fun i hi j hj => by
    obtain rfl : i = 0 := by omega
    exact hs _ (fl_in (1196 + j) (fl_knd j hj))) (fun i j hi hj hne => absurd (by omega) hne) hA
  obtain ⟨bK, bV, bS, hbK⟩ := vk_Sof (args := #[Value.ref b]) (s := s) (N := 1) (tm := fun _ => .string "LaunchRangeLaw" 250) (len := [8]) (byt := [ltrB]) (A := A) st_l8 (fun i hi => hs _ fl_m0) (fun i hi => hs _ fl_m1) (fun i hi => hs _ fl_m2) (fun i hi => by
    obtain rfl : i = 0 := by omega
    exact hs _ fl_m3) (fun i hi j hj => by
    obtain rfl : i = 0 := by omega
    exact hs _ (fl_in (1213 + j) (fl_ltr j hj))) (fun i j hi hj hne => absurd (by omega) hne) hA
  obtain ⟨t1, ht1, hT1⟩ := va_Tof (args := #[Value.ref b]) (s := s) (tm := .static "java/lang/Integer" "DigitOnes" "[B") (ty := .byte) (N := 100) (f := fun j => .int (nI (48 + j % 10))) (A := A) (by decide) (hs _ fl_o1) (va_eqt (hs _ fl_o2)) (fun j hj => va_eqt (hs _ (fl_in _ (fl_ones j hj)))) hA
  obtain ⟨t2, ht2, hT2⟩ := va_Tof (args := #[Value.ref b]) (s := s) (tm := .static "java/lang/Integer" "DigitTens" "[B") (ty := .byte) (N := 100) (f := fun j => .int (nI (48 + j / 10))) (A := A) (by decide) (hs _ fl_t1) (va_eqt (hs _ fl_t2)) (fun j hj => va_eqt (hs _ (fl_in _ (fl_tens j hj)))) hA
  have hsel : ∀ q ∈ selL, va_Nw (.selects "java/lang/StringBuilder" q q) s := fun q hq => va_Nw.of rfl (sel_up (tb_sel q hq).1 (hts _ tb_sb) (hts _ (List.mem_append_right _ (tb_sel q hq).2.1)) (hts _ (List.mem_append_right _ (tb_sel q hq).2.2.1)) (hts _ (List.mem_append_right _ (tb_sel q hq).2.2.2)))
  have hnc : NcU s := fun q hq => va_Nc.of (hs _ (fl_nc q hq))
  obtain ⟨sad, hd⟩ : ∃ sad : Nat → Nat, sad = fun q => if q = 900 then b else if q = 901 then Ln else if q = 1000 then aK 0 else if q = 1001 then aV 0 else if q = 1002 then bK 0 else if q = 1003 then bV 0 else if 2000 ≤ q then (xs (q - 2000)).toUInt32.toNat else f q := ⟨_, rfl⟩
  have d0 : sad 900 = b := by rw [hd]; rfl
  have d1 : sad 901 = Ln := by rw [hd]; rfl
  have d2 : sad 1000 = aK 0 := by rw [hd]; rfl
  have d3 : sad 1001 = aV 0 := by rw [hd]; rfl
  have d4 : sad 1002 = bK 0 := by rw [hd]; rfl
  have d5 : sad 1003 = bV 0 := by rw [hd]; rfl
  have d6 : ∀ j, scr sad j = xs j := fun j => by
    unfold scr
    rw [hd]
    show nI (if 2000 + j = 900 then b else if 2000 + j = 901 then Ln else if 2000 + j = 1000 then aK 0 else if 2000 + j = 1001 then aV 0 else if 2000 + j = 1002 then bK 0 else if 2000 + j = 1003 then bV 0 else if 2000 ≤ 2000 + j then (xs (2000 + j - 2000)).toUInt32.toNat else f (2000 + j)) = xs j
    rw [if_neg (by omega), if_neg (by omega), if_neg (by omega), if_neg (by omega), if_neg (by omega), if_neg (by omega), if_pos (by omega), Nat.add_sub_cancel_left]
    exact nI_back _
  have d7 : ∀ i, i < 29 → sad i = f i := fun i hi => by
    rw [hd]
    show (if i = 900 then b else if i = 901 then Ln else if i = 1000 then aK 0 else if i = 1001 then aV 0 else if i = 1002 then bK 0 else if i = 1003 then bV 0 else if 2000 ≤ i then (xs (i - 2000)).toUInt32.toNat else f i) = f i
    rw [if_neg (by omega), if_neg (by omega), if_neg (by omega), if_neg (by omega), if_neg (by omega), if_neg (by omega), if_neg (by omega)]
  have gY : GlY A sad s s.heap := by
    refine ⟨hnc, by rw [d1]; exact hLn, ?_⟩
    rw [d0, d1, show (fun j => Value.int (scr sad j)) = fun j => Value.int (xs j) from funext fun j => by rw [d6 j]]
    exact va_TX hX (hA b hb)
  refine ⟨sad, d0, vx_Zqof (hts _ tb_us) (hts _ tb_it) (hs _ fl_us) hA, vx_Zqof (hts _ tb_ss) (hts _ tb_it) (hs _ fl_ss) hA, va_Zof (hts _ tb_cs) (hts _ tb_is) (va_eqi (hs _ fl_cs)) hA, ?_, fun q hq => va_Nw.of rfl (hts _ (List.mem_append_right _ (tb_cast q hq))), fun q hq => va_Nw.of rfl (hts _ (List.mem_append_right _ (tb_decl q hq))), fun q hq => va_Nw.of rfl (hts _ (List.mem_append_right _ (tb_nest q hq))), hsel, vx_Zqof (hts _ tb_si) (hts _ tb_ip) (hs _ fl_si) hA, ⟨t1, va_Zref (hts _ tb_do) (hts _ tb_ii) ht1 hA, hT1⟩, ⟨t2, va_Zref (hts _ tb_dt) (hts _ tb_ii) ht2 hA, hT2⟩, ⟨?_, ?_⟩, ?_, ?_, gY⟩
  · intro i hi
    have hi2 : i < 29 := hi
    rw [d7 i hi2]
    exact vk_R.of (hts _ (tb_in _ (tb_tx i hi2))) (hf i hi2)
  · rw [d2]
    exact vk_R.of (hts _ tb_kn) (haK 0 (by decide))
  · rw [d4]
    exact vk_R.of (hts _ tb_lt) (hbK 0 (by decide))
  · rw [d2, d3]
    refine ⟨fun i hi => ?_, fun i j hi hj _ => by omega⟩
    obtain rfl : i = 0 := by omega
    exact aS.1 0 (by decide)
  · rw [d4, d5]
    refine ⟨fun i hi => ?_, fun i j hi hj _ => by omega⟩
    obtain rfl : i = 0 := by omega
    exact bS.1 0 (by decide)
theorem st_k {b : Nat} {s : State} (hts : ∀ w ∈ lw_all, w.before #[Value.ref b] s = true) : ∃ (D : va_G) (cy : Nat → ClassId), va_K D clT (tyT cy) s := by
  obtain ⟨c0, i0, h0⟩ := u_known (ws := lw_all) hts inT_X0 (hts _ tw153)
  obtain ⟨c1, i1, h1⟩ := u_known (ws := lw_all) hts inT_X1 (hts _ tw210)
  obtain ⟨c2, i2, h2⟩ := u_known (ws := lw_all) hts inT_X2 (hts _ tw251)
  obtain ⟨c3, i3, h3⟩ := u_known (ws := lw_all) hts inT_X3 (hts _ tw139)
  obtain ⟨c4, i4, h4⟩ := u_known (ws := lw_all) hts inT_X4 (hts _ tw274)
  obtain ⟨c5, i5, h5⟩ := u_known (ws := lw_all) hts inT_X5 (hts _ tw103)
  obtain ⟨c6, i6, h6⟩ := u_known (ws := lw_all) hts inT_X6 (hts _ tw163)
  obtain ⟨c7, i7, h7⟩ := u_known (ws := lw_all) hts inT_X7 (hts _ tw124)
  obtain ⟨c8, i8, h8⟩ := u_known (ws := lw_all) hts inT_X8 (hts _ tw75)
  obtain ⟨c9, i9, h9⟩ := u_known (ws := lw_all) hts inT_X9 (hts _ tw49)
  obtain ⟨c10, i10, h10⟩ := u_known (ws := lw_all) hts inT_X10 (hts _ tw43)
  obtain ⟨c11, i11, h11⟩ := u_known (ws := lw_all) hts inT_L (hts _ tw35)
  obtain ⟨c12, i12, h12⟩ := u_known (ws := lw_all) hts inT_J4 (hts _ tw280)
  obtain ⟨c13, i13, h13⟩ := u_known (ws := lw_all) hts inT_J0 (hts _ tw483)
  obtain ⟨a0, k0, m0, e0, f0, g0⟩ := Cond.arrayClass_spec (first := s) (o := none) (s := s) (idx := []) (hts _ tw72)
  obtain ⟨a1, k1, m1, e1, f1, g1⟩ := Cond.arrayClass_spec (first := s) (o := none) (s := s) (idx := []) (hts _ tw101)
  obtain ⟨a2, k2, m2, e2, f2, g2⟩ := Cond.arrayClass_spec (first := s) (o := none) (s := s) (idx := []) (hts _ tw73)
  obtain ⟨a3, k3, m3, e3, f3, g3⟩ := Cond.arrayClass_spec (first := s) (o := none) (s := s) (idx := []) (hts _ tw310)
  refine ⟨(fun j => ([c0, c1, c2, c3, c4, c5, c6, c7, c8, c9, c10, c11, c12, c13] : List Nat).getD j 0, fun j => ([i0, i1, i2, i3, i4, i5, i6, i7, i8, i9, i10, i11, i12, i13] : List (Nat → Nat)).getD j (fun _ => 0)), fun j => ([a0, a1, a2, a3] : List Nat).getD j 0, ?_, ?_⟩
  · intro c q hq
    match c, hq with
    | 0, hq => have e := Option.some.inj hq; subst e; exact h0
    | 1, hq => have e := Option.some.inj hq; subst e; exact h1
    | 2, hq => have e := Option.some.inj hq; subst e; exact h2
    | 3, hq => have e := Option.some.inj hq; subst e; exact h3
    | 4, hq => have e := Option.some.inj hq; subst e; exact h4
    | 5, hq => have e := Option.some.inj hq; subst e; exact h5
    | 6, hq => have e := Option.some.inj hq; subst e; exact h6
    | 7, hq => have e := Option.some.inj hq; subst e; exact h7
    | 8, hq => have e := Option.some.inj hq; subst e; exact h8
    | 9, hq => have e := Option.some.inj hq; subst e; exact h9
    | 10, hq => have e := Option.some.inj hq; subst e; exact h10
    | 11, hq => have e := Option.some.inj hq; subst e; exact h11
    | 12, hq => have e := Option.some.inj hq; subst e; exact h12
    | 13, hq => have e := Option.some.inj hq; subst e; exact h13
    | n + 14, hq => exact absurd hq (by intro h; cases h)
  · intro k q hq
    match k, hq with
    | 0, hq => have e := Option.some.inj hq; subst e; exact ⟨fun n z => ⟨fun k h => (by cases h), k0, f0, m0, g0⟩, e0⟩
    | 1, hq => have e := Option.some.inj hq; subst e; exact ⟨fun n z => ⟨fun k h => (by cases h), k1, f1, m1, g1⟩, e1⟩
    | 2, hq => have e := Option.some.inj hq; subst e; exact ⟨fun n z => ⟨fun k h => (by cases h), k2, f2, m2, g2⟩, e2⟩
    | 3, hq => have e := Option.some.inj hq; subst e; exact ⟨fun n z => ⟨fun k h => (by cases h), k3, f3, m3, g3⟩, e3⟩
    | n + 4, hq => exact absurd hq (by intro h; cases h)
def X_0 : XF := si (si (si (si (si (fun _ _ => 0) 111 45) 112 (-1)) 113 45) 114 (-1)) 118 45
def M_0 : XF := fun _ _ => 0
def K_0 : KF := (fun _ => 0, fun j => if j = 0 then 16 else 0, fun _ => [], [])
theorem ch_0 : isCh 0 := ⟨by decide, by decide⟩
theorem ch_45 : isCh 45 := ⟨by decide, by decide⟩
theorem Bd_0 (sad : Nat → Nat) : Bd sad 0 0 0 0 0 X_0 M_0 K_0 := by
  refine ⟨⟨fun k hk => absurd hk (Nat.not_lt_zero _), fun _ => rfl, fun _ => rfl, fun _ => rfl⟩, ⟨rfl, fun _ => ch_0, rfl, fun k hk => absurd hk (Nat.not_lt_zero _)⟩, ⟨rfl, Nat.le_refl _, by decide, fun j hj => absurd hj (Nat.not_lt_zero _)⟩, ⟨rfl, fun _ => ch_0, fun _ => isBo_0, fun j hj => absurd hj (Nat.not_lt_zero _)⟩, rfl, rfl, fun _ => rfl, rfl, rfl, rfl, rfl, rfl, rfl, rfl, ch_45, ch_45, ?_⟩
  refine ⟨⟨by decide, by decide, Or.inl rfl, by decide, by decide⟩, ⟨rfl, ?_, fun j => ?_⟩, rfl, fun _ => 0, LG_0, ⟨rfl, by decide, by decide, by decide⟩, by decide⟩
  · show st_last [] = 45
    decide
  · show (0 : Nat) < 128
    decide
def ad_0 (h0 : Nat) (u : Nat → Nat) : Nat → Nat := fun j => if j < 42 then u j else if j = 42 then h0 else u (j - 1)
def sg_0 (k : Nat) : Nat := if k < 42 then k + 1 else if k = 42 then 0 else k
set_option maxRecDepth 100000 in
theorem wL_0e (cy : Nat → ClassId) (h0 : Nat) (u : Nat → Nat) : ∀ (k : Nat) (q : Nat × va_E), (wL (ad_0 h0 u) cy (u 40) 0 (fun _ => 0) (fun _ => 0) X_0 M_0 K_0)[k]? = some q → (f_L_init cy h0 u)[sg_0 k]? = some q := fun k q hq => match k, hq with
    | 0, hq => hq
    | 1, hq => hq
    | 2, hq => hq
    | 3, hq => hq
    | 4, hq => hq
    | 5, hq => hq
    | 6, hq => hq
    | 7, hq => hq
    | 8, hq => hq
    | 9, hq => hq
    | 10, hq => hq
    | 11, hq => hq
    | 12, hq => hq
    | 13, hq => hq
    | 14, hq => hq
    | 15, hq => hq
    | 16, hq => hq
    | 17, hq => hq
    | 18, hq => hq
    | 19, hq => hq
    | 20, hq => hq
    | 21, hq => hq
    | 22, hq => hq
    | 23, hq => hq
    | 24, hq => hq
    | 25, hq => hq
    | 26, hq => hq
    | 27, hq => hq
    | 28, hq => hq
    | 29, hq => hq
    | 30, hq => hq
    | 31, hq => hq
    | 32, hq => hq
    | 33, hq => hq
    | 34, hq => hq
    | 35, hq => hq
    | 36, hq => hq
    | 37, hq => hq
    | 38, hq => hq
    | 39, hq => hq
    | 40, hq => hq
    | 41, hq => hq
    | 42, hq => hq
    | 43, hq => hq
    | 44, hq => hq
    | 45, hq => hq
    | 46, hq => hq
    | 47, hq => hq
    | n + 48, hq => absurd hq (by intro h; cases h)
theorem tx_0 : txOK 16 [] (fun _ => 0) := ⟨Nat.zero_le _, sb_fit0, fun j h => absurd h (Nat.not_lt_zero j)⟩
theorem tx_1 : txOK 0 [] (fun _ => 0) := ⟨Nat.zero_le _, sb_fit0, fun j h => absurd h (Nat.not_lt_zero j)⟩
theorem Wd_0 {D : va_G} {cy : Nat → ClassId} {A : Nat → Prop} {h0 : Nat} {u : Nat → Nat} {H : Heap} (h : va_P D clT ([] ++ f_L_init cy h0 u) H ∧ va_D A ([] ++ f_L_init cy h0 u)) : Wd D cy A (ad_0 h0 u) X_0 M_0 K_0 H := by
  rw [List.nil_append] at h
  refine ⟨u 40, 0, fun _ => 0, fun _ => 0, tx_0, tx_1, h.1.by sg_0 (wL_0e cy h0 u), h.2.by sg_0 (wL_0e cy h0 u) (fun i j hi hj e => ?_)⟩
  unfold sg_0 at e
  split at e <;> split at e <;> (try split at e) <;> (try split at e) <;> omega
/-- the law's machine, with its objects at the places ad -/
def mkG (p : Program) (l : Launch) (e : Env) (s : State) (m : MethodId) (b : Nat) (below : List Frame) (meth : Method) (c : Code) (D : va_G) (cy : Nat → ClassId) (sad : Nat → Nat) (Q : State → Prop) (ad : Nat → Nat) : MC := (p, l, e, room_1, s, m, #[Value.ref b], below, meth, c, D, cy, (fun q => s.heap.size ≤ q), ad, sad, 1, Q)
theorem law_ctor {G : MC} {b : Nat} (C : Cx G cL_law RL) (hR : gR G = room_1) (kk : ∀ (h0 : Nat) (u : Nat → Nat), GH G (WB G ([] ++ f_L_init (gcy G) h0 u)) [(0, .ref b)] 48 974 7 [.ref h0]) : GH G (WB G ([] ++ [])) [(0, .ref b)] 0 0 0 [] := by
  refine b_new C [.null, .null, .null, .null, .null, .null, .int 0, .int 0, .int 0] inT_L tyL tyL_ok tw34 tw35 tw0 rfl (by decide +kernel) (by rw [hR]; exact ⟨Nat.le_of_ble_eq_true rfl, Nat.le_of_ble_eq_true rfl⟩) dL_law_0 (fun h0 => [(h0, .inr (11, [.null, .null, .null, .null, .null, .null, .int 0, .int 0, .int 0]))]) (fun _ => rfl) (fun h0 => ?_)
  refine g_dup C dL_law_3 rfl ?_
  refine b_ctorL C [] (.inr (11, [.null, .null, .null, .null, .null, .null, .int 0, .int 0, .int 0])) (f_L_init (gcy G) h0) [(h0, .inr (11, [.null, .null, .null, .null, .null, .null, .int 0, .int 0, .int 0]))] rfl (fun u => f_L_init (gcy G) h0 u) (fun _ => rfl) (c_L_init _ _ _ _ _ _ _) tw36 tw37 rfl tw0 tw38 ⟨by decide +kernel, by decide +kernel, rfl⟩ ⟨rfl, rfl⟩ (by rw [hR]; exact ⟨Nat.le_of_ble_eq_true rfl, Nat.le_of_ble_eq_true rfl⟩) rfl (Nat.le_of_ble_eq_true rfl) dL_law_4 (by rw [hR]; exact ⟨Nat.le_of_ble_eq_true rfl, Nat.le_of_ble_eq_true rfl⟩) (fun u => ?_)
  exact kk h0 u
theorem law_run {p : Program} {l : Launch} {e : Env} {s : State} {m : MethodId} {b : Nat} {below : List Frame} {meth : Method} {c : Code} {D : va_G} {cy : Nat → ClassId} {sad : Nat → Nat} {Q : State → Prop} (E : ∀ ad, Cx (mkG p l e s m b below meth c D cy sad Q ad) cL_law RL) (hst : l.stackTraces = false) (h9 : sad 900 = b)
    (hend : ∀ (ad : Nat → Nat) (k n : Nat) (X M : XF) (K : KF), k ≤ 600258 → n ≤ 7293130 → GH (mkG p l e s m b below meth c D cy sad Q ad) (WX (mkG p l e s m b below meth c D cy sad Q ad) X M K) [(0, .ref b)] k n 11 [.int 1]) :
    GH (mkG p l e s m b below meth c D cy sad Q (fun _ => 0)) (WB (mkG p l e s m b below meth c D cy sad Q (fun _ => 0)) ([] ++ [])) [(0, .ref b)] 0 0 0 [] := by
  refine law_ctor (E (fun _ => 0)) rfl (fun h0 u => ?_)
  intro H locs ls hl hw hS
  have C := E (ad_0 h0 u)
  have hg : GH (mkG p l e s m b below meth c D cy sad Q (ad_0 h0 u)) (WX (mkG p l e s m b below meth c D cy sad Q (ad_0 h0 u)) X_0 M_0 K_0) [(0, .ref b)] 48 974 7 [.ref h0] := by
    refine g_aload_n C dL_law_7 0 rfl ?_
    refine g_callViW C dL_law_8 (c_L_holds _ _ _ _ (ad_0 h0 u) sad X_0 M_0 K_0 (Bd_0 sad) hst) tw391 tw393 tp0 tw0 tw394 (rv_L C) (by rw [h9]; rfl) ⟨by decide +kernel, by decide +kernel, rfl⟩ ⟨rfl, rfl⟩ ⟨Nat.le_of_ble_eq_true rfl, Nat.le_of_ble_eq_true rfl⟩ (Nat.le_of_ble_eq_true rfl) ⟨Nat.le_of_ble_eq_true rfl, Nat.le_of_ble_eq_true rfl⟩ (fun r X1 M1 K1 er => ?_)
    exact g_topi er (hend (ad_0 h0 u) _ _ X1 M1 K1 (Nat.le_of_ble_eq_true rfl) (Nat.le_of_ble_eq_true rfl))
  exact hg H locs ls hl (Wd_0 hw) hS
