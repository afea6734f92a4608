/-! one more row, of the strikes grown -/
def WY (G : MC) (X M : XF) (K : KF) (q N : Nat) (g : Nat → Int32) : Heap → Prop := fun H =>
  ∃ (b0 b1 : Nat) (f0 f1 : Nat → Int32), txOK (K.2.1 0) (K.2.2.1 0) f0 ∧ txOK (K.2.1 1) (K.2.2.1 1) f1 ∧ va_P (gD G) clT (wL (gad G) (gcy G) b0 b1 f0 f1 X M K ++ [(q, .inl (gcy G 0, N, .inl g))]) H ∧ va_D (gA G) (wL (gad G) (gcy G) b0 b1 f0 f1 X M K ++ [(q, .inl (gcy G 0, N, .inl g))])
theorem wl_len (ad : Nat → Nat) (cy : Nat → ClassId) (X M : XF) (K : KF) (b0 b1 : Nat) (f0 f1 : Nat → Int32) : (wL ad cy b0 b1 f0 f1 X M K).length = 76 := rfl
theorem wl_app {ws : va_W} {k : Nat} {x y : Nat × va_E} (h : ws[k]? = some x) : (ws ++ [y])[k]? = some x := by
  rw [List.getElem?_append_left (List.getElem?_eq_some_iff.mp h).1]
  exact h
theorem wl_last {ws : va_W} {x : Nat × va_E} {n : Nat} (h : ws.length = n) : (ws ++ [x])[n]? = some x := by
  subst h
  rw [List.getElem?_append_right (Nat.le_refl _), Nat.sub_self]
  rfl
theorem wl_moved {ws : va_W} {p : Nat} {t : Nat × va_E} (k : Nat) (x : Nat × va_E) (h : (ws.set p t)[k]? = some x) : (ws ++ [t])[if k = p then ws.length else k]? = some x := by
  have hk : k < ws.length := by
    have := (List.getElem?_eq_some_iff.mp h).1
    rwa [List.length_set] at this
  by_cases e : k = p
  · subst e
    rw [if_pos rfl, wl_last rfl]
    rw [List.getElem?_set_self hk] at h
    exact h
  · rw [if_neg e, List.getElem?_append_left hk]
    rw [List.getElem?_set_ne (fun q => e q.symm)] at h
    exact h
def sg_K (K : KF) (N q : Nat) : KF := (K.1, fun j => if j = 2 then N else if j = 3 then q else K.2.1 j, K.2.2)
theorem wS_grow (ad : Nat → Nat) (cy : Nat → ClassId) (X M : XF) (K : KF) (b0 b1 : Nat) (f0 f1 : Nat → Int32) (N q : Nat) (g : Nat → Int32) : ∃ o, (wL ad cy b0 b1 f0 f1 X M K)[42]? = some (ad 42, .inr (11, o)) ∧ o.length = 50 ∧ o[33]? = some (.int (M 116 0)) ∧ o[34]? = some (.ref (K.2.1 3)) ∧ ((wL ad cy b0 b1 f0 f1 X M K).set 42 (ad 42, .inr (11, o.set 34 (.ref q)))).set 58 (q, .inl (cy 0, N, .inl g)) = wL ad cy b0 b1 f0 f1 X (sa M 58 g) (sg_K K N q) := ⟨_, rfl, rfl, rfl, rfl, rfl⟩
section
variable {G : MC} {cc : ByteArray} {own : String} {X M : XF} {K : KF} {L : List (Nat × Value)} {k n pc q N idx : Nat} {g : Nat → Int32} {stk : List Value}
theorem y_new (C : Cx G cc own) {m : Nat} (hm : m < 2 ^ 26) (hf : k + 1 ≤ (gR G).cells ∧ n + m ≤ (gR G).slots) (d : decode cc pc = .ok (.newarray .int, 2)) (kk : ∀ q : Nat, GH G (WY G X M K q m (fun _ => 0)) L (k + 1) (n + m) (pc + 2) (.ref q :: stk)) : GH G (WX G X M K) L k n pc (.int (nI m) :: stk) := by
  intro H locs ls hl hw hS
  obtain ⟨b0, b1, f0, f1, h0, h1, hP, hD⟩ := id hw
  refine va_newa (atype := .int) C.x C.b (C.ts _ tw68) rfl C.K hP hD hS C.new (a0 := (m, .inl (fun _ => 0))) (fun cA => rfl) (nI_pos (by omega)) (nI_clamp (by omega)) (by show m * 4 ≤ _; omega) hf.1 hf.2 d (fun q cA H1 hK hP hD hS1 => ?_)
  have e1 := (hK.2 6 (cA, .int) rfl).2
  have e2 := (C.K.2 0 (gcy G 0, .int) rfl).2
  have e : cA = gcy G 0 := Option.some.inj (e1.symm.trans e2)
  subst e
  exact kk q H1 locs ls hl ⟨b0, b1, f0, f1, h0, h1, hP, hD⟩ hS1
theorem y_strikes (C : Cx G cc own) (hk : Cond.fieldLink own idx "LaunchRangeModel" "strikes" "I" ∈ lw_all) (d : decode cc pc = .ok (.getfield idx, 3)) (kk : GH G (WY G X M K q N g) L k n (pc + 3) (.int (M 116 0) :: stk)) : GH G (WY G X M K q N g) L k n pc (.ref (gad G 42) :: stk) := by
  intro H locs ls hl hw hS
  obtain ⟨b0, b1, f0, f1, h0, h1, hP, hD⟩ := id hw
  obtain ⟨o, o1, o2, o3, o4, o5⟩ := wS_grow (gad G) (gcy G) X M K b0 b1 f0 f1 N q g
  exact va_get C.x C.b C.ts inT_X11 C.o C.K hP 42 (wl_app o1) (rfl : clT[11]? = _) 33 (by decide) (C.ts _ hk) (fun _ h => h) o3 d (kk H locs ls hl hw hS)
theorem y_struck (C : Cx G cc own) (hk : Cond.fieldLink own idx "LaunchRangeModel" "struckAt" "[I" ∈ lw_all) (d : decode cc pc = .ok (.getfield idx, 3)) (kk : GH G (WY G X M K q N g) L k n (pc + 3) (.ref (K.2.1 3) :: stk)) : GH G (WY G X M K q N g) L k n pc (.ref (gad G 42) :: stk) := by
  intro H locs ls hl hw hS
  obtain ⟨b0, b1, f0, f1, h0, h1, hP, hD⟩ := id hw
  obtain ⟨o, o1, o2, o3, o4, o5⟩ := wS_grow (gad G) (gcy G) X M K b0 b1 f0 f1 N q g
  exact va_get C.x C.b C.ts inT_X11 C.o C.K hP 42 (wl_app o1) (rfl : clT[11]? = _) 34 (by decide) (C.ts _ hk) (fun _ h => h) o4 d (kk H locs ls hl hw hS)
theorem y_ld (C : Cx G cc own) {i : Nat} (hi : i < K.2.1 2) (hN : K.2.1 2 < 2 ^ 31) (d : decode cc pc = .ok (.iaload, 1)) (kk : GH G (WY G X M K q N g) L k n (pc + 1) (.int (M 58 i) :: stk)) : GH G (WY G X M K q N g) L k n pc (.int (nI i) :: .ref (K.2.1 3) :: stk) := by
  intro H locs ls hl hw hS
  obtain ⟨b0, b1, f0, f1, h0, h1, hP, hD⟩ := id hw
  refine va_iald C.x C.b C.K hP 58 0 (wl_app (wL_58 (gad G) (gcy G) X M K b0 b1 f0 f1)) rfl (vp_in_nI hi hN) d ?_
  rw [nI_clamp (by omega)]
  exact kk H locs ls hl hw hS
theorem y_st (C : Cx G cc own) {i : Nat} {x : Int32} (hi : i < N) (hN : N < 2 ^ 31) (d : decode cc pc = .ok (.iastore, 1)) (kk : GH G (WY G X M K q N (upd g i x)) L k n (pc + 1) stk) : GH G (WY G X M K q N g) L k n pc (.int x :: .int (nI i) :: .ref q :: stk) := by
  intro H locs ls hl hw hS
  obtain ⟨b0, b1, f0, f1, h0, h1, hP, hD⟩ := id hw
  refine va_iast C.x C.b C.K hP hD hS 76 0 (wl_last (wl_len (gad G) (gcy G) X M K b0 b1 f0 f1)) rfl (vp_in_nI hi hN) d (fun H1 locs1 hP hD hS1 => ?_)
  rw [nI_clamp (by omega), List.set_append_right _ _ (by rw [wl_len]; exact Nat.le_refl _), wl_len] at hP hD
  exact kk H1 locs1 ls hl ⟨b0, b1, f0, f1, h0, h1, hP, hD⟩ hS1
theorem y_put (C : Cx G cc own) (hk : Cond.fieldLink own idx "LaunchRangeModel" "struckAt" "[I" ∈ lw_all) (d : decode cc pc = .ok (.putfield idx, 3)) (kk : GH G (WX G X (sa M 58 g) (sg_K K N q)) L k n (pc + 3) stk) : GH G (WY G X M K q N g) L k n pc (.ref q :: .ref (gad G 42) :: stk) := by
  intro H locs ls hl hw hS
  obtain ⟨b0, b1, f0, f1, h0, h1, hP, hD⟩ := id hw
  obtain ⟨o, o1, o2, o3, o4, o5⟩ := wS_grow (gad G) (gcy G) X M K b0 b1 f0 f1 N q g
  refine va_put C.x C.b C.ts inT_X11 tyX11 tyX11_ok nmX11 C.o C.K hP hD hS 42 (wl_app o1) (rfl : clT[11]? = _) 34 (by decide) (C.ts _ hk) (fun _ h => h) rfl (ty := .array .int) (by decide +kernel) rfl rfl (by rw [o2]; decide) d (fun H1 locs1 hP hD hS1 => ?_)
  rw [List.set_append_left _ _ (by rw [wl_len]; decide)] at hP hD
  have hP2 := hP.by _ (fun k x h => wl_moved (p := 58) k x h)
  have hD2 := hD.by _ (fun k x h => wl_moved (p := 58) k x h) (fun i j hi hj e => by
    rw [List.length_set, List.length_set, wl_len] at hi hj
    rw [List.length_set, wl_len] at e
    by_cases h1 : i = 58 <;> by_cases h2 : j = 58
    · omega
    · rw [if_pos h1, if_neg h2] at e; omega
    · rw [if_neg h1, if_pos h2] at e; omega
    · rw [if_neg h1, if_neg h2] at e; exact e)
  rw [o5] at hP2 hD2
  exact kk H1 locs1 ls hl ⟨b0, b1, f0, f1, h0, h1, hP2, hD2⟩ hS1
theorem x_len (C : Cx G cc own) (d : decode cc pc = .ok (.arraylength, 1)) (kk : GH G (WX G X M K) L k n (pc + 1) (.int (nI (K.2.1 2)) :: stk)) : GH G (WX G X M K) L k n pc (.ref (K.2.1 3) :: stk) := by
  intro H locs ls hl hw hS
  obtain ⟨b0, b1, f0, f1, h0, h1, hP, hD⟩ := id hw
  exact va_alen C.x C.b C.K hP 58 0 (wL_58 (gad G) (gcy G) X M K b0 b1 f0 f1) rfl rfl d (kk H locs ls hl hw hS)
end
def stN (N : Nat) : Prop := N = 64 ∨ N = 128 ∨ N = 256 ∨ N = 512
/-- what a strike leaves -/
def st_post (M : XF) (K : KF) (p1 : Int32) (zs : Nat) (r : Int32) (M1 : XF) (K1 : KF) : Prop :=
  if lin p1.toInt64 0 99 = 0 then r = 0 ∧ M1 = si M 100 1 ∧ K1 = K
  else if 20 < p1 then r = md_near (M 58) (M 101 0) zs ∧ M1 = si M 100 0 ∧ K1 = K
  else ∃ (N q : Nat) (f : Nat → Int32), stN N ∧ zs + 1 ≤ N ∧ (∀ i, i < zs → f i = M 58 i) ∧ f zs = M 101 0 ∧ M1 = si (sa (si M 100 0) 58 f) 116 (nI zs + 1) ∧ K1 = sg_K K N q ∧ r = md_near f (M 101 0) (zs + 1)
theorem sg_id (K : KF) : sg_K K (K.2.1 2) (K.2.1 3) = K := by
  show (K.1, _, K.2.2) = K
  refine Prod.ext rfl (Prod.ext (funext fun j => ?_) rfl)
  show (if j = 2 then K.2.1 2 else if j = 3 then K.2.1 3 else K.2.1 j) = K.2.1 j
  by_cases h : j = 2
  · rw [if_pos h, h]
  · rw [if_neg h]
    by_cases h3 : j = 3
    · rw [if_pos h3, h3]
    · rw [if_neg h3]
def sg_f (f : Nat → Int32) (m : Nat) : Nat → Int32 := fun i => if i < m then f i else 0
theorem sg_0 (f : Nat → Int32) : sg_f f 0 = fun _ => 0 := funext fun i => if_neg (Nat.not_lt_zero i)
theorem sg_1 (f : Nat → Int32) (m : Nat) : upd (sg_f f m) m (f m) = sg_f f (m + 1) := by
  funext i
  rw [upd_at]
  unfold sg_f
  by_cases h : i = m
  · rw [if_pos h, if_pos (show i < m + 1 by omega), h]
  · rw [if_neg h]
    by_cases h2 : i < m
    · rw [if_pos h2, if_pos (show i < m + 1 by omega)]
    · rw [if_neg h2, if_neg (show ¬ i < m + 1 by omega)]
theorem sk_grow {G : MC} {X M : XF} {K : KF} {k n zs p : Nat} {p1 : Int32} (C : Cx G cX11_strike RX11) (hL : gL G = 4) (hp : p = gad G 42) (hzs : M 116 0 = nI zs) (hz : zs = K.2.1 2) (hzl : zs ≤ 256) (hf : k + 1 ≤ (gR G).cells ∧ n + 2 * zs ≤ (gR G).slots)
    (kk : ∀ q : Nat, GH G (WX G X (sa M 58 (sg_f (M 58) zs)) (sg_K K (2 * zs) q)) [(0, .ref p), (1, .int p1)] (k + 1) (n + 2 * zs) 89 []) : GH G (WX G X M K) [(0, .ref p), (1, .int p1)] k n 50 [] := by
  subst hp
  refine g_iconst C dX11_strike_50 (v := 2) (by decide) ?_
  refine g_aload_n C dX11_strike_51 0 rfl ?_
  refine gf_X11_strikes C tw1276 dX11_strike_52 ?_
  refine g_imul C dX11_strike_55 ?_
  refine g_topi (y := nI (2 * zs)) (by rw [hzs, show (2 : Int32) = nI 2 from rfl, pk_mul]) ?_
  refine y_new C (by omega) hf dX11_strike_56 (fun q => ?_)
  refine g_astore_n C dX11_strike_58 (L' := [(2, .ref q), (0, .ref (gad G 42)), (1, .int p1)]) rfl (by rw [hL]; decide) ?_
  refine g_iconst C dX11_strike_59 (v := 0) (by decide) ?_
  refine g_istore_n C dX11_strike_60 (L' := [(3, .int (nI 0)), (2, .ref q), (0, .ref (gad G 42)), (1, .int p1)]) rfl (by rw [hL]; decide) ?_
  have lp : ∀ (m i : Nat) (hi : i + m = zs), GH G (WY G X M K q (2 * zs) (sg_f (M 58) i)) [(3, .int (nI i)), (2, .ref q), (0, .ref (gad G 42)), (1, .int p1)] (k + 1) (n + 2 * zs) 61 [] := by
    intro m
    induction m with
    | zero =>
      intro i hi
      obtain rfl : zs = i := by omega
      refine g_iload_n C dX11_strike_61 0 rfl ?_
      refine g_aload_n C dX11_strike_62 2 rfl ?_
      refine y_strikes C tw1276 dX11_strike_63 ?_
      refine g_topi hzs ?_
      refine g_icmp_ge C dX11_strike_66 (tgt := 84) (by decide) (fun c_9 => ?_) (fun c_9 => absurd (nI_le (a := zs) (b := zs) (Nat.le_refl _) (by omega)) c_9)
      refine g_aload_n C dX11_strike_84 2 rfl ?_
      refine g_aload_n C dX11_strike_85 1 rfl ?_
      refine y_put C tw1277 dX11_strike_86 ?_
      exact g_sub [2, 3] rfl (kk q)
    | succ m ih =>
      intro i hi
      refine g_iload_n C dX11_strike_61 0 rfl ?_
      refine g_aload_n C dX11_strike_62 2 rfl ?_
      refine y_strikes C tw1276 dX11_strike_63 ?_
      refine g_topi hzs ?_
      refine g_icmp_ge C dX11_strike_66 (tgt := 84) (by decide) (fun c_9 => absurd c_9 (nI_ge (a := i) (b := zs) (by omega) (by omega))) (fun c_9 => ?_)
      refine g_aload_n C dX11_strike_69 1 rfl ?_
      refine g_iload_n C dX11_strike_70 0 rfl ?_
      refine g_aload_n C dX11_strike_71 2 rfl ?_
      refine y_struck C tw1277 dX11_strike_72 ?_
      refine g_iload_n C dX11_strike_75 0 rfl ?_
      refine y_ld C (by omega) (by omega) dX11_strike_76 ?_
      refine y_st C (by omega) (by omega) dX11_strike_77 ?_
      refine g_iinc C dX11_strike_78 0 rfl (v := nI (i + 1)) (nI_1 _) (L' := [(3, .int (nI (i + 1))), (2, .ref q), (0, .ref (gad G 42)), (1, .int p1)]) rfl (by rw [hL]; decide) ?_
      refine g_goto C dX11_strike_81 (tgt := 61) (by decide) ?_
      rw [sg_1]
      exact ih (i + 1) (by omega)
  have h0 := lp zs 0 (by omega)
  rw [sg_0] at h0
  exact h0
theorem st_a {M : XF} {K : KF} {p1 r : Int32} {zs : Nat} {M1 : XF} (h : lin p1.toInt64 0 99 = 0) (hr : r = 0) (e : M1 = si M 100 1) : st_post M K p1 zs r M1 K := by
  unfold st_post
  rw [if_pos h]
  exact ⟨hr, e, rfl⟩
theorem st_b {M : XF} {K : KF} {p1 r : Int32} {zs : Nat} (h : ¬ lin p1.toInt64 0 99 = 0) (h2 : 20 < p1) (hr : r = md_near (M 58) (M 101 0) zs) : st_post M K p1 zs r (si M 100 0) K := by
  unfold st_post
  rw [if_neg h, if_pos h2]
  exact ⟨hr, rfl, rfl⟩
theorem st_c {M : XF} {K : KF} {p1 r : Int32} {zs : Nat} (h : ¬ lin p1.toInt64 0 99 = 0) (h2 : ¬ 20 < p1) (hz : zs < K.2.1 2) (hN : stN (K.2.1 2)) (hr : r = md_near (upd (M 58) zs (M 101 0)) (M 101 0) (zs + 1)) : st_post M K p1 zs r (si (sa (si M 100 0) 58 (upd (M 58) zs (M 101 0))) 116 (nI zs + 1)) K := by
  unfold st_post
  rw [if_neg h, if_neg h2]
  exact ⟨K.2.1 2, K.2.1 3, upd (M 58) zs (M 101 0), hN, hz, fun i hi => by rw [upd_at, if_neg (by omega)], up_us _ _ _, rfl, (sg_id K).symm, hr⟩
theorem st_d {M : XF} {K : KF} {p1 r : Int32} {zs q : Nat} (h : ¬ lin p1.toInt64 0 99 = 0) (h2 : ¬ 20 < p1) (hz : zs = K.2.1 2) (hzl : zs < 512) (hN : stN (K.2.1 2)) (hr : r = md_near (upd (sg_f (M 58) zs) zs (M 101 0)) (M 101 0) (zs + 1)) : st_post M K p1 zs r (si (sa (sa (si M 100 0) 58 (sg_f (M 58) zs)) 58 (upd (sg_f (M 58) zs) zs (M 101 0))) 116 (nI zs + 1)) (sg_K K (2 * zs) q) := by
  unfold st_post
  rw [if_neg h, if_neg h2]
  unfold stN at hN
  refine ⟨2 * zs, q, upd (sg_f (M 58) zs) zs (M 101 0), ?_, by omega, fun i hi => ?_, up_us _ _ _, ?_, rfl, hr⟩
  · unfold stN; omega
  · rw [upd_at, if_neg (by omega)]
    exact if_pos hi
  · rw [sa_sa]

set_option maxHeartbeats 400000 in
set_option maxRecDepth 100000 in
/-- strike.strike -/
theorem c_X11_strike (l : Launch) (D : va_G) (cy : Nat → ClassId) (A : Nat → Prop) (ad sad : Nat → Nat) (X M : XF) (K : KF) (p1 : Int32) (zs : Nat) (hzs : M 116 0 = nI zs) (hzl : zs < 512) (hzk : zs ≤ K.2.1 2) (hN : stN (K.2.1 2)) : Met l yX11_strike (wsA yX11_strike cX11_strike 4 (some .int)) ({ frames := 1, cells := 1, slots := 512, locals := 25 }) (PcW D cy A ad sad X M K [.ref (ad 42), .int p1]) (QiW D cy A ad (fun r X1 M1 K1 => X1 = X ∧ st_post M K p1 zs r M1 K1)) 1 512 A := by
  refine met_ofW [(0, .ref (ad 42)), (1, .int p1)] (by decide +kernel) (Nat.le_of_ble_eq_true rfl) rfl ?_
  intro G C hl hR hL hD hcy hA had hsa hr hQ
  subst hD hcy hA had hsa hl
  have hN2 : K.2.1 2 ≤ 512 := by unfold stN at hN; omega
  refine g_aload_n C dX11_strike_0 0 rfl ?_
  refine g_iconst C dX11_strike_1 (v := 0) (by decide) ?_
  refine pf_X11_thrown C tw1243 dX11_strike_2 ?_
  refine g_aload_n C dX11_strike_5 0 rfl ?_
  refine g_iload_n C dX11_strike_6 1 rfl ?_
  refine g_i2l C dX11_strike_7 ?_
  refine g_lconst C dX11_strike_8 (v := 0) (by decide) ?_
  refine g_ldc2 C dX11_strike_9 tw1494 ?_
  refine g_callSiW C dX11_strike_12 (c_X11_in _ _ _ _ _ _ _ _ _ _ _ _) tw1406 tw1407 tw16 tw1408 rfl ⟨by decide +kernel, by decide +kernel, rfl⟩ ⟨rfl, rfl⟩ (by rw [hR]; decide) (Nat.le_of_ble_eq_true rfl) (by rw [hR]; decide) (fun r_1 X1 M1 K1 h_2 => ?_)
  obtain ⟨er_1, hX1, hM1, hK1⟩ := h_2
  subst X1 M1 K1
  try simp only [sa_ap, si_ap, reduceIte, Nat.reduceEqDiff] at er_1
  refine g_if_ne C dX11_strike_15 (tgt := 22) (by decide) (fun c_15 => ?_) (fun c_15 => ?_)
  · try simp only [sa_ap, si_ap, reduceIte, Nat.reduceEqDiff, up_us, lg_cmp_lt, lg_cmp_gt, lg_cmp_le, lg_cmp_ge] at c_15
    refine g_iconst C dX11_strike_22 (v := 0) (by decide) ?_
    refine g_iconst C dX11_strike_23 (v := 1) (by decide) ?_
    refine g_callViW C dX11_strike_24 (c_X11_fails_0 _ _ _ _ _ _ _ _ _ _ (by rfl)) tw1412 tw1414 tp14 tw16 tw1415 (rv_X11 C) rfl ⟨by decide +kernel, by decide +kernel, rfl⟩ ⟨rfl, rfl⟩ (by rw [hR]; decide) (Nat.le_of_ble_eq_true rfl) (by rw [hR]; decide) (fun r_3 X1 M1 K1 h_4 => ?_)
    obtain ⟨rfl, hX1, hM1, hK1⟩ := h_4
    subst X1 M1 K1
    refine g_if_eq C dX11_strike_27 (tgt := 32) (by decide) (fun c_27 => ?_) (fun c_27 => absurd (by decide) c_27)
    refine g_iload_n C dX11_strike_32 1 rfl ?_
    refine g_bipush C dX11_strike_33 (v := 20) (by decide) ?_
    refine g_icmp_gt C dX11_strike_35 (tgt := 112) (by decide) (fun c_35 => ?_) (fun c_35 => ?_)
    · try simp only [sa_ap, si_ap, reduceIte, Nat.reduceEqDiff, up_us, lg_cmp_lt, lg_cmp_gt, lg_cmp_le, lg_cmp_ge] at c_35
      refine g_aload_n C dX11_strike_112 0 rfl ?_
      refine g_callViW C dX11_strike_113 (c_X11_near _ _ _ _ _ _ _ _ _ zs hzs (by omega) (by omega)) tw1495 tw1497 tp21 tw16 tw1498 (rv_X11 C) rfl ⟨by decide +kernel, by decide +kernel, rfl⟩ ⟨rfl, rfl⟩ (by rw [hR]; decide) (Nat.le_of_ble_eq_true rfl) (by rw [hR]; decide) (fun r_5 X1 M1 K1 h_6 => ?_)
      obtain ⟨hnr, hX1, hM1, hK1⟩ := h_6
      subst X1 M1 K1
      refine g_iretW C hr hQ (by omega) (by unfold stN at hN; omega) dX11_strike_116 ?_
      first | exact ⟨rfl, st_b (by rw [← er_1]; assumption) c_35 hnr⟩ | exact ⟨rfl, st_c (by rw [← er_1]; assumption) c_35 (by omega) hN hnr⟩ | exact ⟨rfl, st_d (by rw [← er_1]; assumption) c_35 hz hzl hN hnr⟩
    · try simp only [sa_ap, si_ap, reduceIte, Nat.reduceEqDiff, up_us, lg_cmp_lt, lg_cmp_gt, lg_cmp_le, lg_cmp_ge] at c_35
      refine g_aload_n C dX11_strike_38 0 rfl ?_
      refine gf_X11_strikes C tw1276 dX11_strike_39 ?_
      refine g_topi hzs ?_
      refine g_aload_n C dX11_strike_42 0 rfl ?_
      refine gf_X11_struckAt C tw1277 dX11_strike_43 ?_
      refine x_len C dX11_strike_46 ?_
      refine g_icmp_ne C dX11_strike_47 (tgt := 89) (by decide) (fun c_47 => ?_) (fun c_47 => ?_)
      · try simp only [sa_ap, si_ap, reduceIte, Nat.reduceEqDiff, up_us, lg_cmp_lt, lg_cmp_gt, lg_cmp_le, lg_cmp_ge] at c_47
        have hz : ¬ zs = K.2.1 2 := fun q => c_47 (by rw [q])
        refine g_aload_n C dX11_strike_89 0 rfl ?_
        refine gf_X11_struckAt C tw1277 dX11_strike_90 ?_
        refine g_aload_n C dX11_strike_93 0 rfl ?_
        refine gf_X11_strikes C tw1276 dX11_strike_94 ?_
        refine g_topi hzs ?_
        refine g_aload_n C dX11_strike_97 0 rfl ?_
        refine gf_X11_second C tw1244 dX11_strike_98 ?_
        refine as_58 C (by first | exact ⟨by omega, by omega⟩ | exact ⟨by show zs < 2 * zs; unfold stN at hN; omega, by show 2 * zs < 2 ^ 31; omega⟩) dX11_strike_101 ?_
        refine g_aload_n C dX11_strike_102 0 rfl ?_
        refine g_dup C dX11_strike_103 rfl ?_
        refine gf_X11_strikes C tw1276 dX11_strike_104 ?_
        refine g_topi hzs ?_
        refine g_iconst C dX11_strike_107 (v := 1) (by decide) ?_
        refine g_iadd C dX11_strike_108 ?_
        refine pf_X11_strikes C tw1276 dX11_strike_109 ?_
        refine g_aload_n C dX11_strike_112 0 rfl ?_
        refine g_callViW C dX11_strike_113 (c_X11_near _ _ _ _ _ _ _ _ _ (zs + 1) (by show nI zs + 1 = nI (zs + 1); rw [nI_1]) (by omega) (by omega)) tw1495 tw1497 tp21 tw16 tw1498 (rv_X11 C) rfl ⟨by decide +kernel, by decide +kernel, rfl⟩ ⟨rfl, rfl⟩ (by rw [hR]; decide) (Nat.le_of_ble_eq_true rfl) (by rw [hR]; decide) (fun r_7 X1 M1 K1 h_8 => ?_)
        obtain ⟨hnr, hX1, hM1, hK1⟩ := h_8
        subst X1 M1 K1
        refine g_iretW C hr hQ (by omega) (by unfold stN at hN; omega) dX11_strike_116 ?_
        first | exact ⟨rfl, st_b (by rw [← er_1]; assumption) c_35 hnr⟩ | exact ⟨rfl, st_c (by rw [← er_1]; assumption) c_35 (by omega) hN hnr⟩ | exact ⟨rfl, st_d (by rw [← er_1]; assumption) c_35 hz hzl hN hnr⟩
      · try simp only [sa_ap, si_ap, reduceIte, Nat.reduceEqDiff, up_us, lg_cmp_lt, lg_cmp_gt, lg_cmp_le, lg_cmp_ge] at c_47
        have hz : zs = K.2.1 2 := by rw [nI_eq (by omega) (by omega)] at c_47; exact c_47
        refine sk_grow C hL rfl hzs hz (by unfold stN at hN; omega) (by rw [hR]; exact ⟨by show 0 + 1 ≤ 1; omega, by show 0 + 2 * zs ≤ 512; unfold stN at hN; omega⟩) (fun q => ?_)
        refine g_aload_n C dX11_strike_89 0 rfl ?_
        refine gf_X11_struckAt C tw1277 dX11_strike_90 ?_
        refine g_aload_n C dX11_strike_93 0 rfl ?_
        refine gf_X11_strikes C tw1276 dX11_strike_94 ?_
        refine g_topi hzs ?_
        refine g_aload_n C dX11_strike_97 0 rfl ?_
        refine gf_X11_second C tw1244 dX11_strike_98 ?_
        refine as_58 C (by first | exact ⟨by omega, by omega⟩ | exact ⟨by show zs < 2 * zs; unfold stN at hN; omega, by show 2 * zs < 2 ^ 31; omega⟩) dX11_strike_101 ?_
        refine g_aload_n C dX11_strike_102 0 rfl ?_
        refine g_dup C dX11_strike_103 rfl ?_
        refine gf_X11_strikes C tw1276 dX11_strike_104 ?_
        refine g_topi hzs ?_
        refine g_iconst C dX11_strike_107 (v := 1) (by decide) ?_
        refine g_iadd C dX11_strike_108 ?_
        refine pf_X11_strikes C tw1276 dX11_strike_109 ?_
        refine g_aload_n C dX11_strike_112 0 rfl ?_
        refine g_callViW C dX11_strike_113 (c_X11_near _ _ _ _ _ _ _ _ _ (zs + 1) (by show nI zs + 1 = nI (zs + 1); rw [nI_1]) (by show zs + 1 ≤ 2 * zs; unfold stN at hN; omega) (by show 2 * zs < 2 ^ 31; omega)) tw1495 tw1497 tp21 tw16 tw1498 (rv_X11 C) rfl ⟨by decide +kernel, by decide +kernel, rfl⟩ ⟨rfl, rfl⟩ (by rw [hR]; decide) (Nat.le_of_ble_eq_true rfl) (by rw [hR]; exact ⟨by show 0 + 1 + 0 ≤ 1; omega, by show 0 + 2 * zs + 0 ≤ 512; unfold stN at hN; omega⟩) (fun r_9 X1 M1 K1 h_10 => ?_)
        obtain ⟨hnr, hX1, hM1, hK1⟩ := h_10
        subst X1 M1 K1
        refine g_iretW C hr hQ (by omega) (by unfold stN at hN; omega) dX11_strike_116 ?_
        first | exact ⟨rfl, st_b (by rw [← er_1]; assumption) c_35 hnr⟩ | exact ⟨rfl, st_c (by rw [← er_1]; assumption) c_35 (by omega) hN hnr⟩ | exact ⟨rfl, st_d (by rw [← er_1]; assumption) c_35 hz hzl hN hnr⟩
  · try simp only [sa_ap, si_ap, reduceIte, Nat.reduceEqDiff, up_us, lg_cmp_lt, lg_cmp_gt, lg_cmp_le, lg_cmp_ge] at c_15
    refine g_iconst C dX11_strike_18 (v := 1) (by decide) ?_
    refine g_goto C dX11_strike_19 (tgt := 23) (by decide) ?_
    refine g_iconst C dX11_strike_23 (v := 1) (by decide) ?_
    refine g_callViW C dX11_strike_24 (c_X11_fails_1 _ _ _ _ _ _ _ _ _ _ (by rfl) (by decide)) tw1412 tw1414 tp14 tw16 tw1415 (rv_X11 C) rfl ⟨by decide +kernel, by decide +kernel, rfl⟩ ⟨rfl, rfl⟩ (by rw [hR]; decide) (Nat.le_of_ble_eq_true rfl) (by rw [hR]; decide) (fun r_11 X1 M1 K1 h_12 => ?_)
    obtain ⟨rfl, hX1, hM1, hK1⟩ := h_12
    subst X1 M1 K1
    refine g_if_eq C dX11_strike_27 (tgt := 32) (by decide) (fun c_27 => absurd c_27 (by decide)) (fun c_27 => ?_)
    refine g_iconst C dX11_strike_30 (v := 0) (by decide) ?_
    refine g_iretW C hr hQ (by omega) (by unfold stN at hN; omega) dX11_strike_31 ?_
    exact ⟨rfl, st_a (by rw [← er_1]; assumption) rfl (si_si _ _ _ _)⟩
