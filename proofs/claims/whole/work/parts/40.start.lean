/-! the beginning: what the entry gives -/
theorem sel_up {C : String} {y : MethodName} {s : State} {args : Array Value} {n : Nat} (hy : y.cls ≠ "java/lang/invoke/MethodHandle" ∧ y.cls ≠ "java/lang/invoke/VarHandle") (hins : (Cond.instantiable C n).before args s = true) (hpriv : (Cond.privateMethod y).before args s = true) (hinst : (Cond.instanceMethod y).before args s = true) (hsame : (Cond.sameMethod y.cls y.cls y.name y.desc).before args s = true) : (Cond.selects C y y).before args s = true := by
  obtain ⟨c, k, hc, hk, -, -, -, -⟩ := Cond.instantiable_spec hins
  obtain ⟨c2, ck, m', hc2, hck, hni, -, -⟩ := Cond.sameMethod_found hsame
  obtain ⟨mk, methM, hnamed, hmethM, -, -⟩ := Cond.instanceMethod_spec hinst
  have hfound : s.methodFound? y.cls y.name y.desc = some mk := State.methodFound?_of_named hnamed hy
  have hcls : mk.cls = c2 := Option.some.inj ((findClass_of_methodNamed hnamed).symm.trans hc2)
  have hsel : selectMethod {} s.vm c mk = .method mk := selectMethod_private hmethM (Cond.privateMethod_at hpriv mk methM hnamed hmethM)
  simp only [Cond.before, Cond.holds, Cond.value, hc, hfound, hnamed, hsel, hcls, hck]
  simp
  exact hni
def fl1 : List Cond := flatC (Cond.and given_1 narrow_1)
theorem fl_in {c : Cond} (i : Nat) (h : fl1[i]? = some c) : c ∈ flatC (Cond.and given_1 narrow_1) := List.mem_of_getElem? h
theorem tb_in {c : Cond} (i : Nat) (h : tables_1[i]? = some c) : c ∈ lw_tbl := List.mem_append_right _ (List.mem_of_getElem? h)
set_option maxRecDepth 100000 in
theorem fl_ones : ∀ j : Nat, j < 100 → fl1[8 + j]? = some (Cond.eq (.elem (.static "java/lang/Integer" "DigitOnes" "[B") (.int (Int32.ofNat j))) (.int (nI (48 + j % 10)))) := by decide +kernel
set_option maxRecDepth 100000 in
theorem fl_tens : ∀ j : Nat, j < 100 → fl1[111 + j]? = some (Cond.eq (.elem (.static "java/lang/Integer" "DigitTens" "[B") (.int (Int32.ofNat j))) (.int (nI (48 + j / 10)))) := by decide +kernel
def txF : List Nat := [330, 372, 388, 431, 456, 484, 500, 538, 565, 615, 643, 661, 694, 722, 754, 805, 836, 852, 871, 915, 954, 997, 1013, 1050, 1082, 1109, 1131, 1168, 1195, 1211, 1223]
def txW : List Nat := [646, 684, 692, 712, 726, 777, 781, 782, 812, 832, 861, 866, 875, 883, 910, 911, 923, 924, 936, 937, 997, 1017, 1018, 1034, 1035, 1142, 1171, 1185, 1193, 1217, 1230]
set_option maxRecDepth 100000 in
theorem fl_tx : ∀ i : Nat, i < 31 → fl1[txF.getD i 0]? = some (Cond.exactly (.string "LaunchRange" (txN.getD i (0, "")).1) "java/lang/String") := by decide +kernel
set_option maxRecDepth 100000 in
theorem tb_tx : ∀ i : Nat, i < 31 → tables_1[txW.getD i 0]? = some (Cond.stringRef "LaunchRange" (txN.getD i (0, "")).1 (txN.getD i (0, "")).2) := by decide +kernel
set_option maxRecDepth 100000 in
theorem fl_knd : ∀ j : Nat, j < 6 → fl1[1247 + j]? = some (Cond.eq (.elem (.field (.string "LaunchRangeModel" 223) "java/lang/String" "value" "[B") (.int (Int32.ofNat j))) (.int (kndB.getD j 0))) := by decide +kernel
theorem fl_k0 : Cond.exactly (.string "LaunchRangeModel" 223) "java/lang/String" ∈ flatC (Cond.and given_1 narrow_1) := fl_in 1243 (by decide +kernel)
theorem fl_k1 : Cond.eq (.field (.string "LaunchRangeModel" 223) "java/lang/String" "coder" "B") (.int 0) ∈ flatC (Cond.and given_1 narrow_1) := fl_in 1244 (by decide +kernel)
theorem fl_k2 : Cond.arrayOf (.field (.string "LaunchRangeModel" 223) "java/lang/String" "value" "[B") .byte ∈ flatC (Cond.and given_1 narrow_1) := fl_in 1245 (by decide +kernel)
theorem fl_k3 : Cond.eq (.length (.field (.string "LaunchRangeModel" 223) "java/lang/String" "value" "[B")) (.int (Int32.ofNat 6)) ∈ flatC (Cond.and given_1 narrow_1) := fl_in 1246 (by decide +kernel)
theorem fl_o1 : Cond.arrayOf (.static "java/lang/Integer" "DigitOnes" "[B") .byte ∈ flatC (Cond.and given_1 narrow_1) := fl_in 6 (by decide +kernel)
theorem fl_o2 : Cond.eq (.length (.static "java/lang/Integer" "DigitOnes" "[B")) (.int (Int32.ofNat 100)) ∈ flatC (Cond.and given_1 narrow_1) := fl_in 7 (by decide +kernel)
theorem fl_t1 : Cond.arrayOf (.static "java/lang/Integer" "DigitTens" "[B") .byte ∈ flatC (Cond.and given_1 narrow_1) := fl_in 109 (by decide +kernel)
theorem fl_t2 : Cond.eq (.length (.static "java/lang/Integer" "DigitTens" "[B")) (.int (Int32.ofNat 100)) ∈ flatC (Cond.and given_1 narrow_1) := fl_in 110 (by decide +kernel)
theorem fl_cs : Cond.eq (.static "java/lang/String" "COMPACT_STRINGS" "Z") (.int 1) ∈ flatC (Cond.and given_1 narrow_1) := fl_in 4 (by decide +kernel)
theorem fl_si : Cond.isRef (.static "jdk/internal/util/Preconditions" "SIOOBE_FORMATTER" fmtD) ∈ flatC (Cond.and given_1 narrow_1) := fl_in 211 (by decide +kernel)
theorem fl_us : Cond.isRef (.static Bundle.tN "UNASSIGNED_STACK" Bundle.steD) ∈ flatC (Cond.and given_1 narrow_1) := fl_in 215 (by decide +kernel)
theorem fl_ss : Cond.isRef (.static Bundle.tN "SUPPRESSED_SENTINEL" Bundle.listD) ∈ flatC (Cond.and given_1 narrow_1) := fl_in 216 (by decide +kernel)
set_option maxRecDepth 100000 in
theorem fl_nc : ∀ q ∈ ncL, Cond.not (.castable q.1 q.2) ∈ fl1 := by decide +kernel
set_option maxRecDepth 100000 in
theorem tb_cast : ∀ q ∈ castL, Cond.castable q.1 q.2 ∈ tables_1 := by decide +kernel
set_option maxRecDepth 100000 in
theorem tb_decl : ∀ q ∈ declL, Cond.declares q ∈ tables_1 := by decide +kernel
set_option maxRecDepth 100000 in
theorem tb_nest : ∀ q ∈ nestL, Cond.methodLinkNest q.1 q.2.1 q.2.2.1 q.2.2.2 ∈ tables_1 := by decide +kernel
set_option maxRecDepth 100000 in
theorem tb_sel : ∀ q ∈ selL, (q.cls ≠ "java/lang/invoke/MethodHandle" ∧ q.cls ≠ "java/lang/invoke/VarHandle") ∧ Cond.privateMethod q ∈ tables_1 ∧ Cond.instanceMethod q ∈ tables_1 ∧ Cond.sameMethod q.cls q.cls q.name q.desc ∈ tables_1 := by decide +kernel
theorem tb_us : Cond.laysStatic Bundle.tN "UNASSIGNED_STACK" Bundle.steD ∈ lw_tbl := tb_in 628 (by decide +kernel)
theorem tb_ss : Cond.laysStatic Bundle.tN "SUPPRESSED_SENTINEL" Bundle.listD ∈ lw_tbl := tb_in 630 (by decide +kernel)
theorem tb_it : Cond.initialized Bundle.tN ∈ lw_tbl := tb_in 17 (by decide +kernel)
theorem tb_cs : Cond.laysStatic "java/lang/String" "COMPACT_STRINGS" "Z" ∈ lw_tbl := tb_in 285 (by decide +kernel)
theorem tb_is : Cond.initialized "java/lang/String" ∈ lw_tbl := tb_in 14 (by decide +kernel)
theorem tb_si : Cond.laysStatic "jdk/internal/util/Preconditions" "SIOOBE_FORMATTER" fmtD ∈ lw_tbl := tb_in 444 (by decide +kernel)
theorem tb_ip : Cond.initialized "jdk/internal/util/Preconditions" ∈ lw_tbl := tb_in 29 (by decide +kernel)
theorem tb_do : Cond.laysStatic "java/lang/Integer" "DigitOnes" "[B" ∈ lw_tbl := tb_in 428 (by decide +kernel)
theorem tb_dt : Cond.laysStatic "java/lang/Integer" "DigitTens" "[B" ∈ lw_tbl := tb_in 430 (by decide +kernel)
theorem tb_ii : Cond.initialized "java/lang/Integer" ∈ lw_tbl := tb_in 26 (by decide +kernel)
theorem tb_sb : Cond.instantiable "java/lang/StringBuilder" 4 ∈ lw_tbl := tb_in 276 (by decide +kernel)
theorem tb_kn : Cond.stringRef "LaunchRangeModel" 223 "tswlbg" ∈ lw_tbl := tb_in 1513 (by decide +kernel)
theorem st_l : ∀ i : Nat, i < 1 → ([6] : List Nat).getD i 0 < 2 ^ 31 := by decide
theorem st_gl {b : Nat} {s : State} {A : Nat → Prop} (hts : ∀ w ∈ lw_tbl, w.before #[Value.ref b] s = true) (hs : ∀ c ∈ flatC (Cond.and given_1 narrow_1), c.before #[Value.ref b] s = true) (hA : ∀ a : Nat, a < s.heap.size → ¬ A a) : ∃ sad : Nat → Nat, Gl A sad s s.heap := by
  have hE : ∀ i : Nat, ∃ a : Nat, i < 31 → (Term.string "LaunchRange" (txN.getD i (0, "")).1).eval #[Value.ref b] s none [] s = some (.ref a) := by
    intro i
    by_cases hi : i < 31
    · obtain ⟨a, c, cA, kA, q1, -⟩ := Cond.exactly_spec (args := #[Value.ref b]) (first := s) (o := none) (s := s) (idx := []) (hs _ (fl_in _ (fl_tx i hi)))
      exact ⟨a, fun _ => q1⟩
    · exact ⟨0, fun h => absurd h hi⟩
  obtain ⟨f, hf⟩ := Classical.axiomOfChoice hE
  obtain ⟨aK, aV, hS, hK⟩ := vk_Sof (args := #[Value.ref b]) (s := s) (N := 1) (tm := fun _ => .string "LaunchRangeModel" 223) (len := [6]) (byt := [kndB]) (A := A) st_l (fun i hi => hs _ fl_k0) (fun i hi => hs _ fl_k1) (fun i hi => hs _ fl_k2) (fun i hi => by
    obtain rfl : i = 0 := by omega
    exact hs _ fl_k3) (fun i hi j hj => by
    obtain rfl : i = 0 := by omega
    exact hs _ (fl_in (1247 + j) (fl_knd j hj))) (fun i j hi hj hne => absurd (by omega) hne) hA
  obtain ⟨t1, ht1, hT1⟩ := va_Tof (args := #[Value.ref b]) (s := s) (tm := .static "java/lang/Integer" "DigitOnes" "[B") (ty := .byte) (N := 100) (f := fun j => .int (nI (48 + j % 10))) (A := A) (by decide) (hs _ fl_o1) (va_eqt (hs _ fl_o2)) (fun j hj => va_eqt (hs _ (fl_in _ (fl_ones j hj)))) hA
  obtain ⟨t2, ht2, hT2⟩ := va_Tof (args := #[Value.ref b]) (s := s) (tm := .static "java/lang/Integer" "DigitTens" "[B") (ty := .byte) (N := 100) (f := fun j => .int (nI (48 + j / 10))) (A := A) (by decide) (hs _ fl_t1) (va_eqt (hs _ fl_t2)) (fun j hj => va_eqt (hs _ (fl_in _ (fl_tens j hj)))) hA
  have hsel : ∀ q ∈ selL, va_Nw (.selects "java/lang/StringBuilder" q q) s := fun q hq => va_Nw.of rfl (sel_up (tb_sel q hq).1 (hts _ tb_sb) (hts _ (List.mem_append_right _ (tb_sel q hq).2.1)) (hts _ (List.mem_append_right _ (tb_sel q hq).2.2.1)) (hts _ (List.mem_append_right _ (tb_sel q hq).2.2.2)))
  refine ⟨fun q => if q = 1000 then aK 0 else if q = 1001 then aV 0 else f q, vx_Zqof (hts _ tb_us) (hts _ tb_it) (hs _ fl_us) hA, vx_Zqof (hts _ tb_ss) (hts _ tb_it) (hs _ fl_ss) hA, va_Zof (hts _ tb_cs) (hts _ tb_is) (va_eqi (hs _ fl_cs)) hA, ?_, fun q hq => va_Nw.of rfl (hts _ (List.mem_append_right _ (tb_cast q hq))), fun q hq => va_Nw.of rfl (hts _ (List.mem_append_right _ (tb_decl q hq))), fun q hq => va_Nw.of rfl (hts _ (List.mem_append_right _ (tb_nest q hq))), hsel, vx_Zqof (hts _ tb_si) (hts _ tb_ip) (hs _ fl_si) hA, ⟨t1, va_Zref (hts _ tb_do) (hts _ tb_ii) ht1 hA, hT1⟩, ⟨t2, va_Zref (hts _ tb_dt) (hts _ tb_ii) ht2 hA, hT2⟩, vk_R.of (hts _ tb_kn) (hK 0 (by decide)), fun i hi => ?_, fun i j hi hj _ => by omega⟩
  · intro i hi
    have hi2 : i < 31 := hi
    show vk_R "LaunchRange" (txN.getD i (0, "")).1 (txN.getD i (0, "")).2 (if i = 1000 then aK 0 else if i = 1001 then aV 0 else f i) s
    rw [if_neg (by omega), if_neg (by omega)]
    exact vk_R.of (hts _ (tb_in _ (tb_tx i hi2))) (hf i hi2)
  · obtain rfl : i = 0 := by omega
    exact hS.1 0 (by decide)
theorem st_nc {b : Nat} {s : State} (hs : ∀ c ∈ flatC (Cond.and given_1 narrow_1), c.before #[Value.ref b] s = true) : NcU s := fun q hq => va_Nc.of (hs _ (fl_nc q hq))
theorem st_k {b : Nat} {s : State} (hts : ∀ w ∈ lw_all, w.before #[Value.ref b] s = true) : ∃ (D : va_G) (cy : Nat → ClassId), va_K D clT (tyT cy) s := by
  obtain ⟨c0, i0, h0⟩ := u_known (ws := lw_all) hts inT_X0 (hts _ tw149)
  obtain ⟨c1, i1, h1⟩ := u_known (ws := lw_all) hts inT_X1 (hts _ tw206)
  obtain ⟨c2, i2, h2⟩ := u_known (ws := lw_all) hts inT_X2 (hts _ tw247)
  obtain ⟨c3, i3, h3⟩ := u_known (ws := lw_all) hts inT_X3 (hts _ tw135)
  obtain ⟨c4, i4, h4⟩ := u_known (ws := lw_all) hts inT_X4 (hts _ tw270)
  obtain ⟨c5, i5, h5⟩ := u_known (ws := lw_all) hts inT_X5 (hts _ tw99)
  obtain ⟨c6, i6, h6⟩ := u_known (ws := lw_all) hts inT_X6 (hts _ tw159)
  obtain ⟨c7, i7, h7⟩ := u_known (ws := lw_all) hts inT_X7 (hts _ tw120)
  obtain ⟨c8, i8, h8⟩ := u_known (ws := lw_all) hts inT_X8 (hts _ tw71)
  obtain ⟨c9, i9, h9⟩ := u_known (ws := lw_all) hts inT_X9 (hts _ tw45)
  obtain ⟨c10, i10, h10⟩ := u_known (ws := lw_all) hts inT_X10 (hts _ tw37)
  obtain ⟨c11, i11, h11⟩ := u_known (ws := lw_all) hts inT_X11 (hts _ tw1236)
  obtain ⟨c12, i12, h12⟩ := u_known (ws := lw_all) hts inT_J4 (hts _ tw276)
  obtain ⟨a0, k0, m0, e0, f0, g0⟩ := Cond.arrayClass_spec (first := s) (o := none) (s := s) (idx := []) (hts _ tw68)
  obtain ⟨a1, k1, m1, e1, f1, g1⟩ := Cond.arrayClass_spec (first := s) (o := none) (s := s) (idx := []) (hts _ tw97)
  obtain ⟨a2, k2, m2, e2, f2, g2⟩ := Cond.arrayClass_spec (first := s) (o := none) (s := s) (idx := []) (hts _ tw69)
  obtain ⟨a3, k3, m3, e3, f3, g3⟩ := Cond.arrayClass_spec (first := s) (o := none) (s := s) (idx := []) (hts _ tw305)
  obtain ⟨a4, k4, m4, e4, f4, g4⟩ := Cond.arrayClass_spec (first := s) (o := none) (s := s) (idx := []) (hts _ tw1750)
  obtain ⟨a5, k5, m5, e5, f5, g5⟩ := Cond.arrayClass_spec (first := s) (o := none) (s := s) (idx := []) (hts _ tw1751)
  refine ⟨(fun j => ([c0, c1, c2, c3, c4, c5, c6, c7, c8, c9, c10, c11, c12] : List Nat).getD j 0, fun j => ([i0, i1, i2, i3, i4, i5, i6, i7, i8, i9, i10, i11, i12] : List (Nat → Nat)).getD j (fun _ => 0)), fun j => ([a0, a1, a2, a3, a4, a5] : List Nat).getD j 0, ?_, ?_⟩
  · intro c q hq
    match c, hq with
    | 0, hq => have e := Option.some.inj hq; subst e; exact h0
    | 1, hq => have e := Option.some.inj hq; subst e; exact h1
    | 2, hq => have e := Option.some.inj hq; subst e; exact h2
    | 3, hq => have e := Option.some.inj hq; subst e; exact h3
    | 4, hq => have e := Option.some.inj hq; subst e; exact h4
    | 5, hq => have e := Option.some.inj hq; subst e; exact h5
    | 6, hq => have e := Option.some.inj hq; subst e; exact h6
    | 7, hq => have e := Option.some.inj hq; subst e; exact h7
    | 8, hq => have e := Option.some.inj hq; subst e; exact h8
    | 9, hq => have e := Option.some.inj hq; subst e; exact h9
    | 10, hq => have e := Option.some.inj hq; subst e; exact h10
    | 11, hq => have e := Option.some.inj hq; subst e; exact h11
    | 12, hq => have e := Option.some.inj hq; subst e; exact h12
    | n + 13, hq => exact absurd hq (by intro h; cases h)
  · intro k q hq
    match k, hq with
    | 0, hq => have e := Option.some.inj hq; subst e; exact ⟨fun n z => ⟨fun k h => (by cases h), k0, f0, m0, g0⟩, e0⟩
    | 1, hq => have e := Option.some.inj hq; subst e; exact ⟨fun n z => ⟨fun k h => (by cases h), k1, f1, m1, g1⟩, e1⟩
    | 2, hq => have e := Option.some.inj hq; subst e; exact ⟨fun n z => ⟨fun k h => (by cases h), k2, f2, m2, g2⟩, e2⟩
    | 3, hq => have e := Option.some.inj hq; subst e; exact ⟨fun n z => ⟨fun k h => (by cases h), k3, f3, m3, g3⟩, e3⟩
    | 4, hq => have e := Option.some.inj hq; subst e; exact ⟨fun n z => ⟨fun k h => (by cases h), k4, f4, m4, g4⟩, e4⟩
    | 5, hq => have e := Option.some.inj hq; subst e; exact ⟨fun n z => ⟨fun k h => (by cases h), k5, f5, m5, g5⟩, e5⟩
    | n + 6, hq => exact absurd hq (by intro h; cases h)
def K_0 (a : Nat) : KF := (fun _ => 0, fun j => if j = 3 then a else if j = 2 then 64 else if j = 1 then 16 else if j = 0 then 16 else 0, fun _ => [], fun _ => 0, fun _ => 0)
theorem Inv_0 (a : Nat) : Inv 0 0 0 0 0 0 X_0 M_0 (K_0 a) := by
  refine ⟨Rel_0, rfl, ⟨Nat.le_refl _, Nat.zero_le _, Or.inl rfl, Nat.zero_le _, Nat.le_refl _⟩, ⟨rfl, rfl, fun j => ?_⟩, ⟨0, Nat.le_refl _, Nat.le_of_eq ?_⟩, fun _ => rfl, Nat.le_refl _, Nat.zero_le _, Or.inl rfl⟩
  · show (0 : Nat) < 128
    decide
  · decide
def ad_0 (h0 : Nat) (u : Nat → Nat) (h1 : Nat) (w : Nat → Nat) (q3 q4 : Nat) : Nat → Nat := fun j => if j = 0 then h0 else if j < 42 then u (j - 1) else if j = 42 then h1 else if j < 74 then w (j - 43) else if j = 74 then q3 else q4
def wL_end (cy : Nat → ClassId) (h0 : Nat) (u : Nat → Nat) (h1 : Nat) (w : Nat → Nat) (q3 q4 : Nat) : va_W := ((f_X10_init cy h0 u ++ f_X11_init cy h1 w) ++ [(q3, .inl (cy 4, 1, .inr (.inl (fun _ => 0))))]) ++ [(q4, .inl (cy 5, 1, .inr (.inr (.inr (.inl (fun _ => 0))))))]
set_option maxRecDepth 100000 in
theorem wL_0e (cy : Nat → ClassId) (h0 : Nat) (u : Nat → Nat) (h1 : Nat) (w : Nat → Nat) (q3 q4 : Nat) : wL_end cy h0 u h1 w q3 q4 = wL (ad_0 h0 u h1 w q3 q4) cy (u 39) (w 30) (fun _ => 0) (fun _ => 0) X_0 M_0 (K_0 (w 15)) := rfl
theorem tx_0 : txOK 16 [] (fun _ => 0) := ⟨Nat.zero_le _, sb_fit0, fun j h => absurd h (Nat.not_lt_zero j)⟩
theorem Wd_0 {D : va_G} {cy : Nat → ClassId} {A : Nat → Prop} {h0 h1 q3 q4 : Nat} {u w : Nat → Nat} {H : Heap} (h : va_P D clT (wL_end cy h0 u h1 w q3 q4) H ∧ va_D A (wL_end cy h0 u h1 w q3 q4)) : Wd D cy A (ad_0 h0 u h1 w q3 q4) X_0 M_0 (K_0 (w 15)) H := by
  rw [wL_0e] at h
  exact ⟨u 39, w 30, fun _ => 0, fun _ => 0, tx_0, tx_0, h.1, h.2⟩
/-- the law's machine, with both objects at the places ad -/
def mkG (p : Program) (l : Launch) (e : Env) (s : State) (m : MethodId) (b : Nat) (below : List Frame) (meth : Method) (c : Code) (D : va_G) (cy : Nat → ClassId) (sad : Nat → Nat) (Q : State → Prop) (ad : Nat → Nat) : MC := (p, l, e, room_1, s, m, #[Value.ref b], below, meth, c, D, cy, (fun q => s.heap.size ≤ q), ad, sad, 9, Q)
set_option maxHeartbeats 1000000 in
theorem law_ctor {G : MC} {b : Nat} (C : Cx G cL_law RL) (hR : gR G = room_1) (hL : gL G = 9) (kk : ∀ (h0 : Nat) (u : Nat → Nat) (h1 : Nat) (w : Nat → Nat) (q3 q4 : Nat), GH G (WB G ([] ++ wL_end (gcy G) h0 u h1 w q3 q4)) [(0, .ref b), (1, .ref h0), (2, .ref h1), (3, .ref q3), (4, .ref q4), (5, .int (nI (6 * 0)))] 76 1406 28 []) : GH G (WB G ([] ++ [])) [(0, .ref b)] 0 0 0 [] := by
  refine b_new C [.null, .null, .null, .null, .null, .null, .null, .null, .null, .null, .null, .int 0, .int 0] inT_X10 tyX10 tyX10_ok tw36 tw37 tw1 rfl (by decide +kernel) (by rw [hR]; exact ⟨Nat.le_of_ble_eq_true rfl, Nat.le_of_ble_eq_true rfl⟩) dL_law_0 (fun h0 => [(h0, .inr (10, [.null, .null, .null, .null, .null, .null, .null, .null, .null, .null, .null, .int 0, .int 0]))]) (fun _ => rfl) (fun h0 => ?_)
  refine g_dup C dL_law_3 rfl ?_
  refine b_ctorL C [] (.inr (10, [.null, .null, .null, .null, .null, .null, .null, .null, .null, .null, .null, .int 0, .int 0])) (f_X10_init (gcy G) h0) [(h0, .inr (10, [.null, .null, .null, .null, .null, .null, .null, .null, .null, .null, .null, .int 0, .int 0]))] rfl (fun u => f_X10_init (gcy G) h0 u) (fun _ => rfl) (c_X10_init _ _ _ _ _ _ _) tw38 tw39 rfl tw1 tw40 ⟨by decide +kernel, by decide +kernel, rfl⟩ ⟨rfl, rfl⟩ (by rw [hR]; exact ⟨Nat.le_of_ble_eq_true rfl, Nat.le_of_ble_eq_true rfl⟩) rfl (Nat.le_of_ble_eq_true rfl) dL_law_4 (by rw [hR]; exact ⟨Nat.le_of_ble_eq_true rfl, Nat.le_of_ble_eq_true rfl⟩) (fun u => ?_)
  refine g_astore_n C dL_law_7 (L' := [(1, .ref h0), (0, .ref b)]) rfl (by rw [hL]; decide) ?_
  refine b_new C (.int 0 :: .int 0 :: .int 0 :: .int 0 :: .int 0 :: .long 0 :: .long 0 :: .int 0 :: .int 0 :: .int 0 :: .int 0 :: .int 0 :: .int 0 :: .int 0 :: .int 0 :: .null :: .null :: .null :: .null :: .null :: .int 0 :: .null :: .null :: .null :: .null :: .null :: .int 0 :: .null :: .null :: .null :: .null :: .null :: .int 0 :: .int 0 :: .null :: .null :: .null :: .null :: .null :: .int 0 :: .null :: .null :: .null :: .null :: .null :: .null :: .null :: .null :: .null :: .null :: []) inT_X11 tyX11 tyX11_ok tw1235 tw1236 tw16 rfl (by decide +kernel) (by rw [hR]; exact ⟨Nat.le_of_ble_eq_true rfl, Nat.le_of_ble_eq_true rfl⟩) dL_law_8 (fun h1 => f_X10_init (gcy G) h0 u ++ [(h1, .inr (11, (.int 0 :: .int 0 :: .int 0 :: .int 0 :: .int 0 :: .long 0 :: .long 0 :: .int 0 :: .int 0 :: .int 0 :: .int 0 :: .int 0 :: .int 0 :: .int 0 :: .int 0 :: .null :: .null :: .null :: .null :: .null :: .int 0 :: .null :: .null :: .null :: .null :: .null :: .int 0 :: .null :: .null :: .null :: .null :: .null :: .int 0 :: .int 0 :: .null :: .null :: .null :: .null :: .null :: .int 0 :: .null :: .null :: .null :: .null :: .null :: .null :: .null :: .null :: .null :: .null :: [])))]) (fun _ => rfl) (fun h1 => ?_)
  refine g_dup C dL_law_11 rfl ?_
  refine b_ctorL (wr := []) (L := [(1, .ref h0), (0, .ref b)]) (k := 0 + 1 + 41 + 1) (n := 0 + 13 + 934 + 50) (b := h1) (As := []) (stk := [.ref h1]) C (f_X10_init (gcy G) h0 u) (.inr (11, (.int 0 :: .int 0 :: .int 0 :: .int 0 :: .int 0 :: .long 0 :: .long 0 :: .int 0 :: .int 0 :: .int 0 :: .int 0 :: .int 0 :: .int 0 :: .int 0 :: .int 0 :: .null :: .null :: .null :: .null :: .null :: .int 0 :: .null :: .null :: .null :: .null :: .null :: .int 0 :: .null :: .null :: .null :: .null :: .null :: .int 0 :: .int 0 :: .null :: .null :: .null :: .null :: .null :: .int 0 :: .null :: .null :: .null :: .null :: .null :: .null :: .null :: .null :: .null :: .null :: []))) (f_X11_init (gcy G) h1) (f_X10_init (gcy G) h0 u ++ [(h1, .inr (11, (.int 0 :: .int 0 :: .int 0 :: .int 0 :: .int 0 :: .long 0 :: .long 0 :: .int 0 :: .int 0 :: .int 0 :: .int 0 :: .int 0 :: .int 0 :: .int 0 :: .int 0 :: .null :: .null :: .null :: .null :: .null :: .int 0 :: .null :: .null :: .null :: .null :: .null :: .int 0 :: .null :: .null :: .null :: .null :: .null :: .int 0 :: .int 0 :: .null :: .null :: .null :: .null :: .null :: .int 0 :: .null :: .null :: .null :: .null :: .null :: .null :: .null :: .null :: .null :: .null :: [])))]) rfl (fun w => f_X10_init (gcy G) h0 u ++ f_X11_init (gcy G) h1 w) (fun _ => rfl) (c_X11_init _ _ _ _ _ _ _) tw1237 tw1238 rfl tw16 tw1239 ⟨by decide +kernel, by decide +kernel, rfl⟩ ⟨rfl, rfl⟩ (by rw [hR]; exact ⟨Nat.le_of_ble_eq_true rfl, Nat.le_of_ble_eq_true rfl⟩) rfl (Nat.le_of_ble_eq_true rfl) dL_law_12 (by rw [hR]; exact ⟨Nat.le_of_ble_eq_true rfl, Nat.le_of_ble_eq_true rfl⟩) (fun w => ?_)
  refine g_astore_n C dL_law_15 (L' := [(2, .ref h1), (1, .ref h0), (0, .ref b)]) rfl (by rw [hL]; decide) ?_
  refine g_iconst C dL_law_16 (v := 1) (by decide) ?_
  refine g_topi (y := nI 1) rfl ?_
  refine b_newj C (Nat.le_of_ble_eq_true rfl) (by rw [hR]; exact ⟨Nat.le_of_ble_eq_true rfl, Nat.le_of_ble_eq_true rfl⟩) dL_law_17 (fun q3 => (f_X10_init (gcy G) h0 u ++ f_X11_init (gcy G) h1 w) ++ [(q3, .inl (gcy G 4, 1, .inr (.inl (fun _ => 0))))]) (fun _ => rfl) (fun q3 => ?_)
  refine g_astore_n C dL_law_19 (L' := [(3, .ref q3), (2, .ref h1), (1, .ref h0), (0, .ref b)]) rfl (by rw [hL]; decide) ?_
  refine g_iconst C dL_law_20 (v := 1) (by decide) ?_
  refine g_topi (y := nI 1) rfl ?_
  refine b_newd C (Nat.le_of_ble_eq_true rfl) (by rw [hR]; exact ⟨Nat.le_of_ble_eq_true rfl, Nat.le_of_ble_eq_true rfl⟩) dL_law_21 (fun q4 => wL_end (gcy G) h0 u h1 w q3 q4) (fun _ => rfl) (fun q4 => ?_)
  refine g_astore C dL_law_23 (L' := [(4, .ref q4), (3, .ref q3), (2, .ref h1), (1, .ref h0), (0, .ref b)]) rfl (by rw [hL]; decide) ?_
  refine g_iconst C dL_law_25 (v := 0) (by decide) ?_
  refine g_istore C dL_law_26 (L' := [(5, .int 0), (4, .ref q4), (3, .ref q3), (2, .ref h1), (1, .ref h0), (0, .ref b)]) rfl (by rw [hL]; decide) ?_
  exact g_sub [5, 4, 3, 2, 1, 0] rfl (kk h0 u h1 w q3 q4)
theorem law_run {p : Program} {l : Launch} {e : Env} {s : State} {m : MethodId} {b : Nat} {below : List Frame} {meth : Method} {c : Code} {D : va_G} {cy : Nat → ClassId} {sad : Nat → Nat} {Q : State → Prop} {Ln : Nat} {xs : Nat → Int32} (E : ∀ ad, LawG (mkG p l e s m b below meth c D cy sad Q ad) b Ln xs)
    (hend : ∀ (ad : Nat → Nat) (c' k n : Nat) (X M : XF) (K : KF), k ≤ 604801 → n ≤ 7193636 → GH (mkG p l e s m b below meth c D cy sad Q ad) (WX (mkG p l e s m b below meth c D cy sad Q ad) X M K) (LL (mkG p l e s m b below meth c D cy sad Q ad) b c') k n 2421 []) :
    GH (mkG p l e s m b below meth c D cy sad Q (fun _ => 0)) (WB (mkG p l e s m b below meth c D cy sad Q (fun _ => 0)) ([] ++ [])) [(0, .ref b)] 0 0 0 [] := by
  refine law_ctor (E (fun _ => 0)).1 rfl rfl (fun h0 u h1 w q3 q4 => ?_)
  intro H locs ls hl hw hS
  have hlo := law_loop (E (ad_0 h0 u h1 w q3 q4)) (hend (ad_0 h0 u h1 w q3 q4)) 512 0 rfl 0 0 0 0 0 X_0 M_0 (K_0 (w 15)) 76 1406 (Inv_0 (w 15)) ⟨by show 76 ≤ 100 + 2 * 0 + (0 + 0); decide, by show 1406 ≤ 2000 + 520 * 0 + (0 + 0); decide⟩
  exact hlo H locs ls hl (Wd_0 hw) hS
