/-! numbers of the law's methods -/
theorem pn0 {sad : Nat → Nat} {i m : Nat} (h0 : 0 < m) (hm : m ≤ 2 ^ 20) (h : nI (pn sad i m) = 0) : pn sad i m = 0 := by
  have := pn_lt sad i h0
  exact (nI_eq (by omega) (by decide)).mp (show nI (pn sad i m) = nI 0 from h)
theorem nI_nneg {n : Nat} (h : n < 2 ^ 31) {z : Int32} (hz : z < 0) : ¬ nI n = z := fun q => nI_pos h (by rw [q]; exact hz)
def tr_f (M : XF) (g : Nat → Int32) (k : Nat) : Int32 := if M 47 k = 0 then g k - g k * M 46 k / 1000 else tk_min (M 44 k) (g k - g k * M 46 k / 1000 + M 45 k)
theorem bg_r {v a : Nat} (hv : v ≤ 70) (ha : a < 12) : nI v - (-10 - nI a) = nI (v + (10 + a)) := by
  have e : ∀ v : Fin 71, ∀ a : Fin 12, nI v.val - (-10 - nI a.val) = nI (v.val + (10 + a.val)) := by decide +kernel
  exact e ⟨v, by omega⟩ ⟨a, ha⟩
theorem bg_int {a : Nat} (h : a < 12) : (-10 - nI a : Int32).toInt = -10 - (a : Int) := by
  have e : ∀ a : Fin 12, (-10 - nI a.val : Int32).toInt = -10 - (a.val : Int) := by decide +kernel
  exact e ⟨a, h⟩
theorem bg_code {st p : Int32} {a b c : Nat} (hp : p = -10 - nI a) (ha : a < 12) (hb : b < 30) (hc : c < 40) : xk_begin st p (nI b) (nI (b + c)) = if xk_pf st = 0 then 0 else 2 := by
  have e1 : ∀ a : Fin 12, inr (-600) (-10) (-10 - nI a.val) = 1 := by decide +kernel
  have e2 : ∀ b : Fin 30, inr 0 5000 (nI b.val) = 1 := by decide +kernel
  have e3 : inr (nI b) 5000 (nI (b + c)) = 1 := by
    unfold inr
    rw [if_neg (nI_nlt (by omega) (by omega)), if_neg (fun q => by
      have := (nI_ltI (by decide) (by omega)).mp (show nI 5000 < nI (b + c) from q)
      omega)]
  subst hp
  unfold xk_begin
  rw [e1 ⟨a, ha⟩, e2 ⟨b, hb⟩, e3, if_neg (by decide), if_neg (by decide), if_neg (by decide)]
/-- the waivers of the law's own, struck out one by one -/
def wv0 (f : Nat → Int32) : Nat → Nat → Int32
  | 0 => f
  | i + 1 => upd (wv0 f i) i (-9999)
theorem wv0_at (f : Nat → Int32) : ∀ (i j : Nat), j < i → wv0 f i j = -9999
  | 0, _, h => absurd h (Nat.not_lt_zero _)
  | i + 1, j, h => by
    show upd (wv0 f i) i (-9999) j = -9999
    by_cases e : j = i
    · subst e; exact up_us _ _ _
    · rw [pk_un e]; exact wv0_at f i j (by omega)
theorem pf_st {s : Int32} (h : ¬ xk_pf s = 0) : ¬ s = 45 := fun q => by subst q; exact h (by decide)
theorem pf_0 {s : Int32} (hs : stOk s) (h : xk_pf s = 0) : s = 45 ∨ s = 115 := by
  unfold stOk at hs
  rcases hs with q | q | q | q | q | q | q <;> subst q <;> first | exact Or.inl rfl | exact Or.inr rfl | exact absurd h (by decide)
section
variable {sad : Nat → Nat} {e v z5 : Nat} {X M : XF} {K : KF}
theorem IV.up (I : IV sad e v z5 X M K) (he : e + 1 ≤ v + 2) : IV sad (e + 1) v z5 X M K := by
  obtain ⟨h1, h2, h3, h4, ⟨a1, ⟨m, hm, a2⟩, a3⟩, h6, ⟨b1, b2, b3, n, b4, ⟨c1, c2, c3, c4⟩, b6⟩, h8, -⟩ := I
  exact ⟨h1, h2, h3, h4, ⟨a1, ⟨m, by omega, a2⟩, a3⟩, h6, ⟨b1, b2, b3, n, b4, ⟨c1, c2, c3, by omega⟩, b6⟩, h8, he⟩
end

/-! what is kept -/
theorem I_tk.of {sad : Nat → Nat} {X M Y N : XF} (h : I_tk sad X M) (h2 : Y 2 = X 2) (h3 : Y 3 = X 3) (h4 : Y 4 = X 4) (h5 : Y 5 = X 5) (h6 : Y 6 = X 6) (m4 : N 44 = M 44) (m5 : N 45 = M 45) (m6 : N 46 = M 46) (m7 : N 47 = M 47) : I_tk sad Y N := by
  unfold I_tk
  rw [h2, h3, h4, h5, h6, m4, m5, m6, m7]
  exact h
theorem I_sp.of {sad : Nat → Nat} {X M Y N : XF} (h : I_sp sad X M) (h1 : Y 102 = X 102) (h2 : Y 12 = X 12) (h3 : Y 11 = X 11) (m1 : N 102 0 = M 102 0) : I_sp sad Y N := by
  unfold I_sp
  rw [h1, h2, h3, m1]
  exact h
theorem I_mk.of {z5 : Nat} {X Y : XF} (h : I_mk z5 X) (h1 : Y 103 = X 103) (h2 : Y 14 = X 14) : I_mk z5 Y := by
  unfold I_mk
  rw [h1, h2]
  exact h
theorem I_rl.of {sad : Nat → Nat} {X M Y N : XF} (h : I_rl sad X M) (h0 : Y 105 = X 105) (h1 : Y 25 = X 25) (h2 : Y 26 = X 26) (h3 : Y 27 = X 27) (h4 : Y 28 = X 28) (h5 : Y 29 = X 29) (h6 : Y 32 = X 32) (h7 : Y 41 = X 41) (hw : ∀ j : Nat, j < 6 → wv_ok sad Y N j) : I_rl sad Y N := by
  unfold I_rl
  rw [h0, h1, h2, h3, h4, h5, h6, h7]
  exact ⟨h.1, h.2.1, h.2.2.1, fun j hj => by
    obtain ⟨a1, a2, a3, a4, a5, a6, -⟩ := h.2.2.2 j hj
    exact ⟨a1, a2, a3, a4, a5, a6, hw j hj⟩⟩
theorem I_rl.wv {sad : Nat → Nat} {X M : XF} (h : I_rl sad X M) {j : Nat} (hj : j < 6) : wv_ok sad X M j := (h.2.2.2 j hj).2.2.2.2.2.2
theorem wv_ok.of {sad : Nat → Nat} {X M Y N : XF} {j : Nat} (h : wv_ok sad X M j) (h1 : Y 33 = X 33) (h2 : Y 34 = X 34) (h3 : N 43 = M 43) : wv_ok sad Y N j := by
  unfold wv_ok
  rw [h1, h2, h3]
  exact h
theorem I_wx.of {e v e' v' : Nat} {X Y : XF} (h : I_wx e v X) (he : e ≤ e') (hv : v ≤ v') (h1 : Y 100 = X 100) (h2 : Y 104 = X 104) (h3 : Y 21 = X 21) : I_wx e' v' Y := by
  obtain ⟨a1, ⟨m, hm, a2⟩, a3⟩ := h
  unfold I_wx
  rw [h1, h2, h3]
  exact ⟨a1, ⟨m, by omega, a2⟩, fun j h1 h2 => a3 j (by omega) h2⟩
theorem I_cn.of {v : Nat} {X M Y N : XF} (h : I_cn v X M) (h1 : Y 101 = X 101) (h2 : Y 118 = X 118) (h3 : Y 107 = X 107) (h4 : Y 108 = X 108) (h5 : Y 106 = X 106) (h6 : Y 111 = X 111) (h7 : Y 113 = X 113) (h8 : Y 117 = X 117) (h9 : Y 115 = X 115) (m0 : N 100 = M 100) (m1 : N 101 = M 101) : I_cn v Y N := by
  unfold I_cn
  rw [h1, h2, h3, h4, h5, h6, h7, h8, h9, m0, m1]
  exact h
theorem nx_59 {n : Nat → Nat} {c : Nat} (h : c ≠ 59) : nx n c 59 = n 59 + 1 := by
  unfold nx
  rw [if_neg (fun q => h q.symm), if_pos rfl]
theorem nxs_59 : ∀ (cs : List Nat) (n : Nat → Nat), (∀ c ∈ cs, sgn c) → nxs n cs 59 = n 59 + cs.length
  | [], _, _ => rfl
  | c :: cs, n, h => by
    have ih := nxs_59 cs (nx n c) (fun d hd => h d (List.mem_cons_of_mem _ hd))
    have e := nx_59 (n := n) (h c List.mem_cons_self).2
    show nxs (nx n c) cs 59 = n 59 + (cs.length + 1)
    rw [ih, e]
    omega
theorem I_tx.tell {e v e' v' : Nat} {X X' : XF} {K : KF} {cs : List Nat} (h : I_tx e v X K) (hv : v ≤ 70) (he : e ≤ v + 2) (hs : ∀ c ∈ cs, sgn c) (hl : ltOk cs X X') (h4 : cs.length ≤ 4) (hcnt : ∀ n, cnt_ok n (X 118 0) (v + 2 * e) → cnt_ok (nxs n cs) (X' 118 0) (v' + 2 * e')) : I_tx e' v' X' (kLs K 0 v cs) := by
  obtain ⟨a1, a2, a3, n, a4, a5, a6⟩ := h
  have e0 := sd_ls0 v cs K
  have eT : (kLs K 0 v cs).2.2.1 0 = (lsT (sd 0 K) v cs).1 := congrArg Prod.fst e0
  have el := ls_len (v := v) (by omega) cs (sd 0 K)
  have lb : (sd 0 K).1.length = (K.2.2.1 0).length := rfl
  have hb := a5.2.2.2
  refine ⟨by rw [e0]; exact okT.ls (by omega) cs a1, by rw [eT]; exact R_t.ls (s := sd 0 K) a2 (by omega) hl hs (by omega), by rw [ls_E]; exact a3, nxs n cs, by rw [eT]; exact LG.ls cs (s := sd 0 K) a4 hs, hcnt n a5, ?_⟩
  rw [eT, nxs_59 cs n hs]
  omega
theorem I_tx.of {e v e' v' : Nat} {X Y : XF} {K : KF} (h : I_tx e v X K) (he : v + 2 * e ≤ v' + 2 * e') (h1 : Y 118 = X 118) (h2 : Y 119 = X 119) : I_tx e' v' Y K := by
  obtain ⟨a1, a2, a3, n, a4, ⟨b1, b2, b3, b4⟩, a6⟩ := h
  unfold I_tx R_t
  rw [h1, h2]
  exact ⟨a1, a2, a3, n, a4, ⟨b1, b2, b3, by omega⟩, a6⟩
theorem cnt_one {n : Nat → Nat} {s s' : Int32} {c b b' : Nat} (hc : c = 67 ∨ c = 72 ∨ c = 71 ∨ c = 82 ∨ c = 83 ∨ c = 70 ∨ c = 88 ∨ c = 79) (h : cnt_ok n s b) (h1 : (if c = 71 then 1 else 0) + hs_N s' ≤ hs_N s + (if c = 72 then 1 else 0)) (h2 : hl_N s + (if c = 70 then 1 else 0) = hl_N s') (h3 : 1 + ci s' + b ≤ b' + ci s) : cnt_ok (nx n c) s' b' := by
  obtain ⟨c1, c2, c3, c4⟩ := h
  rcases hc with rfl | rfl | rfl | rfl | rfl | rfl | rfl | rfl <;>
    (simp only [reduceIte, Nat.reduceEqDiff] at h1 h2
     refine ⟨?_, ?_, ?_, ?_⟩ <;> simp only [nx, reduceIte, Nat.reduceEqDiff] <;> omega)
theorem sg_of {c : Nat} (hc : c = 67 ∨ c = 72 ∨ c = 71 ∨ c = 82 ∨ c = 83 ∨ c = 70 ∨ c = 88 ∨ c = 79) : ∀ d ∈ [c], sgn d := by
  intro d hd
  cases List.mem_singleton.mp hd
  rcases hc with rfl | rfl | rfl | rfl | rfl | rfl | rfl | rfl <;> exact ⟨by decide, by decide⟩
theorem again_at (s : Nat → Int32) : ∀ (i j : Nat), j < i → sp_again s i j = 45
  | 0, _, h => absurd h (Nat.not_lt_zero _)
  | i + 1, j, h => by
    show upd (sp_again s i) i 45 j = 45
    by_cases e : j = i
    · subst e; exact up_us _ _ _
    · rw [pk_un e]; exact again_at s i j (by omega)
theorem again_ch {s : Nat → Int32} (h : ∀ i, isCh (s i)) : ∀ (i j : Nat), isCh (sp_again s i j)
  | 0, j => h j
  | i + 1, j => by
    show isCh (upd (sp_again s i) i 45 j)
    by_cases e : j = i
    · subst e; rw [up_us]; exact ⟨by decide, by decide⟩
    · rw [pk_un e]; exact again_ch h i j
theorem end_at (b : Nat → Int32) : ∀ (i j : Nat), j < i → rl_end b i j = -1
  | 0, _, h => absurd h (Nat.not_lt_zero _)
  | i + 1, j, h => by
    show upd (rl_end b i) i (-1) j = -1
    by_cases e : j = i
    · subst e; exact up_us _ _ _
    · rw [pk_un e]; exact end_at b i j (by omega)
section
variable {sad : Nat → Nat} {e v z5 : Nat} {X M : XF} {K : KF}
set_option maxHeartbeats 1000000 in
theorem IV.begin (I : IV sad e v z5 X M K) (he : e + 1 ≤ v + 2) (hpf : xk_pf (X 118 0) = 0) {cv : Int32} {a b c : Nat} (hcv : cv = -10 - nI a) (ha : a < 12) (hb : b < 30) (hc : c < 40) : IV sad (e + 1) v z5 (bg_X 6 5 cv (nI b) (nI (b + c)) X) (sa (si (si (si M 102 0) 100 (nI (v + b))) 101 (nI (v + (b + c)))) 43 (wv0 (M 43) 6)) (kLs K 0 v [67]) := by
  have hv := I.lv
  have hi := bg_int ha
  rw [← hcv] at hi
  have h1 := I.x1
  refine ⟨I.tk.of rfl rfl rfl rfl rfl rfl rfl rfl rfl, ?_, I.mk.of rfl rfl, I.rl.of rfl rfl rfl rfl rfl rfl rfl rfl (fun j hj => Or.inl ⟨end_at _ 6 j hj, wv0_at _ 6 j hj⟩), I.wx.of (by omega) (Nat.le_refl _) rfl rfl rfl, ?_, ?_, hv, he⟩
  · exact ⟨I.x8, fun i => again_ch I.ch12 5 i, isBo_0, I.sp.2.2.2.1, fun _ k hk _ => Or.inl (again_at _ 5 k hk)⟩
  · refine ⟨h1, Or.inr (Or.inl rfl), ⟨v + b, by omega, ?_, rfl⟩, ⟨v + (b + c), by omega, ?_, rfl⟩, ?_, ?_, I.ch111, (show isCh 45 from ⟨by decide, by decide⟩), fun q => absurd (show md_hl 99 = 0 by decide) q⟩
    · show X 101 0 + nI b = nI (v + b)
      rw [h1, nI_add]
    · show X 101 0 + nI (b + c) = nI (v + (b + c))
      rw [h1, nI_add]
    · show -21 ≤ cv.toInt ∧ cv.toInt ≤ v
      omega
    · intro _
      show cv.toInt ≤ -1
      omega
  · refine I.tx.tell hv I.le (sg_of (Or.inl rfl)) (lt_one rfl rfl) (by decide) (fun n h => cnt_one (Or.inl rfl) h ?_ ?_ ?_)
    · show 0 + hs_N 99 ≤ hs_N (X 118 0) + 0
      exact Nat.zero_le _
    · show hl_N (X 118 0) + 0 = hl_N 99
      rcases pf_0 I.st hpf with q | q <;> rw [q] <;> decide
    · show 1 + ci 99 + (v + 2 * e) ≤ (v + 2 * (e + 1)) + ci (X 118 0)
      have : ci 99 = 1 := by decide
      omega
end

set_option maxHeartbeats 400000 in
set_option maxRecDepth 100000 in
/-- areTanksRight.areTanksRight -/
theorem c_L_areTanksRight (l : Launch) (D : va_G) (cy : Nat → ClassId) (A : Nat → Prop) (ad sad : Nat → Nat) (X M : XF) (K : KF) (q9 : Nat) (g : Nat → Int32) (hE : K.2.2.2[0]? = some (q9, .inl (cy 0, 3, .inl g))) (ht : ∀ k : Nat, k < 3 → X 5 k = tr_f M g k) : Met l yL_areTanksRight (wsA yL_areTanksRight cL_areTanksRight 5 (some .boolean)) ({ frames := 14, cells := 0, slots := 0, locals := 386 }) (PcW D cy A ad sad X M K [.ref (ad 42), .ref q9]) (QiW D cy A ad (fun r X1 M1 K1 => r = 1 ∧ X1 = X ∧ M1 = M ∧ K1 = K)) 0 0 A := by
  refine met_ofW [(0, .ref (ad 42)), (1, .ref q9)] (by decide +kernel) (Nat.le_of_ble_eq_true rfl) rfl ?_
  intro G C hl hR hL hD hcy hA had hsa hr hQ
  subst hD hcy hA had hsa hl
  refine g_iconst C dL_areTanksRight_0 (v := 1) (by decide) ?_
  refine g_istore_n C dL_areTanksRight_1 (L' := [(2, .int 1), (0, .ref (gad G 42)), (1, .ref q9)]) rfl (by rw [hL]; decide) ?_
  refine g_iconst C dL_areTanksRight_2 (v := 0) (by decide) ?_
  refine g_istore_n C dL_areTanksRight_3 (L' := [(3, .int 0), (2, .int 1), (0, .ref (gad G 42)), (1, .ref q9)]) rfl (by rw [hL]; decide) ?_
  have lp4 : ∀ (n i : Nat) (hi : i + n = 3), GH G (WX G X M K) [(0, .ref (gad G 42)), (1, .ref q9), (2, .int 1), (3, .int (nI i))] 0 0 4 [] := by
    intro n
    induction n with
    | zero =>
      intro i hi
      obtain rfl : i = 3 := by omega
      refine g_iload_n C dL_areTanksRight_4 3 rfl ?_
      refine g_iconst C dL_areTanksRight_5 (v := 3) (by decide) ?_
      refine g_icmp_ge C dL_areTanksRight_6 (tgt := 91) (by decide) (fun c_6 => ?_) (fun c_6 => absurd (nI_le (a := 3) (b := 3) (Nat.le_refl _) (by omega)) c_6)
      refine g_iload_n C dL_areTanksRight_91 2 rfl ?_
      refine g_zretW C hr (by decide) hQ (Nat.le_refl _) (Nat.le_refl _) dL_areTanksRight_92 ?_
      exact ⟨rfl, rfl, rfl, rfl⟩
    | succ n ih =>
      intro i hi
      refine g_iload_n C dL_areTanksRight_4 3 rfl ?_
      refine g_iconst C dL_areTanksRight_5 (v := 3) (by decide) ?_
      refine g_icmp_ge C dL_areTanksRight_6 (tgt := 91) (by decide) (fun c_6 => absurd c_6 (nI_ge (a := i) (b := 3) (by omega) (by omega))) (fun c_6 => ?_)
      refine g_aload_n C dL_areTanksRight_9 1 rfl ?_
      refine g_iload_n C dL_areTanksRight_10 3 rfl ?_
      refine e_iald C (p := 0) hE (by omega) (by decide) dL_areTanksRight_11 ?_
      refine g_aload_n C dL_areTanksRight_12 1 rfl ?_
      refine g_iload_n C dL_areTanksRight_13 3 rfl ?_
      refine e_iald C (p := 0) hE (by omega) (by decide) dL_areTanksRight_14 ?_
      refine g_aload_n C dL_areTanksRight_15 0 rfl ?_
      refine gf_L_boils C tw367 dL_areTanksRight_16 ?_
      refine g_iload_n C dL_areTanksRight_19 3 rfl ?_
      refine al_46 C (by omega) dL_areTanksRight_20 ?_
      refine g_imul C dL_areTanksRight_21 ?_
      refine g_sipush C dL_areTanksRight_22 (v := 1000) (by decide) ?_
      refine g_idiv C dL_areTanksRight_25 (by decide) ?_
      refine g_isub C dL_areTanksRight_26 ?_
      refine g_namei (fun lv elv => ?_)
      refine g_istore C dL_areTanksRight_27 (L' := [(4, .int lv), (0, .ref (gad G 42)), (1, .ref q9), (2, .int 1), (3, .int (nI i))]) rfl (by rw [hL]; decide) ?_
      refine g_iload_n C dL_areTanksRight_29 3 rfl ?_
      refine g_if_eq C dL_areTanksRight_30 (tgt := 83) (by decide) (fun c_30 => absurd c_30 (by decide)) (fun c_30 => ?_)
      refine g_aload_n C dL_areTanksRight_33 1 rfl ?_
      refine gf_L_o C tw363 dL_areTanksRight_34 ?_
      refine g_bipush C dL_areTanksRight_37 (v := 20) (by decide) ?_
      refine g_iload_n C dL_areTanksRight_39 4 rfl ?_
      refine g_iconst C dL_areTanksRight_40 (v := 0) (by decide) ?_
      refine g_callSiW C dL_areTanksRight_41 (c_ask_20 _ _ _ _ _ _ _ _ _ i (by omega) _) tw1112 tw1113 tw0 tw1114 rfl ⟨by decide +kernel, by decide +kernel, rfl⟩ ⟨rfl, rfl⟩ (by rw [hR]; decide) (Nat.le_of_ble_eq_true rfl) (by rw [hR]; decide) (fun r_1 X1 M1 K1 h_2 => ?_)
      obtain ⟨rfl, hX1, hM1, hK1⟩ := h_2
      subst X1 M1 K1
      refine g_aload_n C dL_areTanksRight_44 1 rfl ?_
      refine gf_L_valves C tw368 dL_areTanksRight_45 ?_
      refine g_iload_n C dL_areTanksRight_48 4 rfl ?_
      refine al_47 C (by omega) dL_areTanksRight_49 ?_
      refine g_if_eq C dL_areTanksRight_50 (tgt := 74) (by decide) (fun c_50 => ?_) (fun c_50 => ?_)
      · try simp only [sa_ap, si_ap, reduceIte, Nat.reduceEqDiff, up_us, lg_cmp_lt, lg_cmp_gt, lg_cmp_le, lg_cmp_ge] at c_50
        refine g_iload C dL_areTanksRight_74 0 rfl ?_
        refine g_icmp_ne C dL_areTanksRight_76 (tgt := 83) (by decide) (fun c_76 => absurd c_76 (not_not_intro ((ht i (by omega)).trans (by subst elv; unfold tr_f; first | rw [if_pos c_50] | rw [if_neg c_50])))) (fun c_76 => ?_)
        refine g_iconst C dL_areTanksRight_79 (v := 1) (by decide) ?_
        refine g_goto C dL_areTanksRight_80 (tgt := 84) (by decide) ?_
        refine g_istore_n C dL_areTanksRight_84 (L' := [(2, .int 1), (4, .int lv), (0, .ref (gad G 42)), (1, .ref q9), (3, .int (nI i))]) rfl (by rw [hL]; decide) ?_
        refine g_iinc C dL_areTanksRight_85 4 rfl (v := nI (i + 1)) (nI_1 _) (L' := [(3, .int (nI (i + 1))), (2, .int 1), (4, .int lv), (0, .ref (gad G 42)), (1, .ref q9)]) rfl (by rw [hL]; decide) ?_
        refine g_goto C dL_areTanksRight_88 (tgt := 4) (by decide) ?_
        exact g_sub [3, 4, 1, 0] rfl (ih (i + 1) (by omega))
      · try simp only [sa_ap, si_ap, reduceIte, Nat.reduceEqDiff, up_us, lg_cmp_lt, lg_cmp_gt, lg_cmp_le, lg_cmp_ge] at c_50
        refine g_aload_n C dL_areTanksRight_53 1 rfl ?_
        refine gf_L_rooms C tw365 dL_areTanksRight_54 ?_
        refine g_iload_n C dL_areTanksRight_57 4 rfl ?_
        refine al_44 C (by omega) dL_areTanksRight_58 ?_
        refine g_iload C dL_areTanksRight_59 0 rfl ?_
        refine g_aload_n C dL_areTanksRight_61 1 rfl ?_
        refine gf_L_rates C tw366 dL_areTanksRight_62 ?_
        refine g_iload_n C dL_areTanksRight_65 4 rfl ?_
        refine al_45 C (by omega) dL_areTanksRight_66 ?_
        refine g_iadd C dL_areTanksRight_67 ?_
        refine g_min C dL_areTanksRight_68 tw1173 (Nat.le_of_ble_eq_true rfl) (by rw [hR]; decide) ?_
        refine g_topi (y := tk_min _ _) rfl ?_
        refine g_goto C dL_areTanksRight_71 (tgt := 76) (by decide) ?_
        refine g_icmp_ne C dL_areTanksRight_76 (tgt := 83) (by decide) (fun c_76 => absurd c_76 (not_not_intro ((ht i (by omega)).trans (by subst elv; unfold tr_f; first | rw [if_pos c_50] | rw [if_neg c_50])))) (fun c_76 => ?_)
        refine g_iconst C dL_areTanksRight_79 (v := 1) (by decide) ?_
        refine g_goto C dL_areTanksRight_80 (tgt := 84) (by decide) ?_
        refine g_istore_n C dL_areTanksRight_84 (L' := [(2, .int 1), (4, .int lv), (0, .ref (gad G 42)), (1, .ref q9), (3, .int (nI i))]) rfl (by rw [hL]; decide) ?_
        refine g_iinc C dL_areTanksRight_85 4 rfl (v := nI (i + 1)) (nI_1 _) (L' := [(3, .int (nI (i + 1))), (2, .int 1), (4, .int lv), (0, .ref (gad G 42)), (1, .ref q9)]) rfl (by rw [hL]; decide) ?_
        refine g_goto C dL_areTanksRight_88 (tgt := 4) (by decide) ?_
        exact g_sub [3, 4, 1, 0] rfl (ih (i + 1) (by omega))
  exact g_sub [2, 3, 1, 0] rfl (lp4 (3) 0 (by omega))

set_option maxHeartbeats 400000 in
set_option maxRecDepth 100000 in
/-- areStepsRight.areStepsRight -/
theorem c_L_areStepsRight (l : Launch) (D : va_G) (cy : Nat → ClassId) (A : Nat → Prop) (ad sad : Nat → Nat) (X M : XF) (K : KF) (hz : X 102 0 = nI 5) (hc : ∀ i : Nat, isCh (X 12 i)) (hs : M 102 0 = 0 → ∀ k : Nat, k < 5 → hasOne sad k → X 12 k = 45 ∨ X 12 (pn sad (24 + k) k) = 101) : Met l yL_areStepsRight (wsA yL_areStepsRight cL_areStepsRight 6 (some .boolean)) ({ frames := 14, cells := 0, slots := 0, locals := 386 }) (PcW D cy A ad sad X M K [.ref (ad 42), .ref (sad 900)]) (QiW D cy A ad (fun r X1 M1 K1 => r = 1 ∧ X1 = X ∧ M1 = M ∧ K1 = K)) 0 0 A := by
  refine met_ofW [(0, .ref (ad 42)), (1, .ref (sad 900))] (by decide +kernel) (Nat.le_of_ble_eq_true rfl) rfl ?_
  intro G C hl hR hL hD hcy hA had hsa hr hQ
  subst hD hcy hA had hsa hl
  refine g_iconst C dL_areStepsRight_0 (v := 1) (by decide) ?_
  refine g_istore_n C dL_areStepsRight_1 (L' := [(2, .int 1), (0, .ref (gad G 42)), (1, .ref (gsa G 900))]) rfl (by rw [hL]; decide) ?_
  refine g_iconst C dL_areStepsRight_2 (v := 0) (by decide) ?_
  refine g_istore_n C dL_areStepsRight_3 (L' := [(3, .int 0), (2, .int 1), (0, .ref (gad G 42)), (1, .ref (gsa G 900))]) rfl (by rw [hL]; decide) ?_
  have lp4 : ∀ (n i : Nat) (hi : i + n = 5), GH G (WX G X M K) [(0, .ref (gad G 42)), (1, .ref (gsa G 900)), (2, .int 1), (3, .int (nI i))] 0 0 4 [] := by
    intro n
    induction n with
    | zero =>
      intro i hi
      obtain rfl : i = 5 := by omega
      refine g_iload_n C dL_areStepsRight_4 3 rfl ?_
      refine g_iconst C dL_areStepsRight_5 (v := 5) (by decide) ?_
      refine g_icmp_ge C dL_areStepsRight_6 (tgt := 104) (by decide) (fun c_6 => ?_) (fun c_6 => absurd (nI_le (a := 5) (b := 5) (Nat.le_refl _) (by omega)) c_6)
      refine g_iload_n C dL_areStepsRight_104 2 rfl ?_
      refine g_zretW C hr (by decide) hQ (Nat.le_refl _) (Nat.le_refl _) dL_areStepsRight_105 ?_
      exact ⟨rfl, rfl, rfl, rfl⟩
    | succ n ih =>
      intro i hi
      refine g_iload_n C dL_areStepsRight_4 3 rfl ?_
      refine g_iconst C dL_areStepsRight_5 (v := 5) (by decide) ?_
      refine g_icmp_ge C dL_areStepsRight_6 (tgt := 104) (by decide) (fun c_6 => absurd c_6 (nI_ge (a := i) (b := 5) (by omega) (by omega))) (fun c_6 => ?_)
      refine g_aload_n C dL_areStepsRight_9 0 rfl ?_
      refine gf_L_wasSetBack C tw371 dL_areStepsRight_10 ?_
      refine g_if_ne C dL_areStepsRight_13 (tgt := 104) (by decide) (fun c_13 => ?_) (fun c_13 => ?_)
      · try simp only [sa_ap, si_ap, reduceIte, Nat.reduceEqDiff, up_us, lg_cmp_lt, lg_cmp_gt, lg_cmp_le, lg_cmp_ge] at c_13
        refine g_iload_n C dL_areStepsRight_104 2 rfl ?_
        refine g_zretW C hr (by decide) hQ (Nat.le_refl _) (Nat.le_refl _) dL_areStepsRight_105 ?_
        exact ⟨rfl, rfl, rfl, rfl⟩
      · try simp only [sa_ap, si_ap, reduceIte, Nat.reduceEqDiff, up_us, lg_cmp_lt, lg_cmp_gt, lg_cmp_le, lg_cmp_ge] at c_13
        refine g_aload_n C dL_areStepsRight_16 0 rfl ?_
        refine gf_L_o C tw363 dL_areStepsRight_17 ?_
        refine g_bipush C dL_areStepsRight_20 (v := 21) (by decide) ?_
        refine g_iload_n C dL_areStepsRight_22 3 rfl ?_
        refine g_iconst C dL_areStepsRight_23 (v := 0) (by decide) ?_
        refine g_callSiW C dL_areStepsRight_24 (c_ask_21 _ _ _ _ _ _ _ _ _ i 5 hz (by decide) (by omega) hc _) tw1112 tw1113 tw0 tw1114 rfl ⟨by decide +kernel, by decide +kernel, rfl⟩ ⟨rfl, rfl⟩ (by rw [hR]; decide) (Nat.le_of_ble_eq_true rfl) (by rw [hR]; decide) (fun r_1 X1 M1 K1 h_2 => ?_)
        obtain ⟨rfl, hX1, hM1, hK1⟩ := h_2
        subst X1 M1 K1
        refine g_istore C dL_areStepsRight_27 (L' := [(4, .int (X 12 i)), (0, .ref (gad G 42)), (1, .ref (gsa G 900)), (2, .int 1), (3, .int (nI i))]) rfl (by rw [hL]; decide) ?_
        refine g_iload_n C dL_areStepsRight_29 4 rfl ?_
        refine g_if_le C dL_areStepsRight_30 (tgt := 49) (by decide) (fun c_30 => ?_) (fun c_30 => ?_)
        · try simp only [sa_ap, si_ap, reduceIte, Nat.reduceEqDiff, up_us, lg_cmp_lt, lg_cmp_gt, lg_cmp_le, lg_cmp_ge] at c_30
          refine g_iconst C dL_areStepsRight_49 (v := 0) (by decide) ?_
          refine g_istore C dL_areStepsRight_50 (L' := [(5, .int 0), (4, .int (X 12 i)), (0, .ref (gad G 42)), (1, .ref (gsa G 900)), (2, .int 1), (3, .int (nI i))]) rfl (by rw [hL]; decide) ?_
          refine g_iload_n C dL_areStepsRight_52 4 rfl ?_
          refine g_if_eq C dL_areStepsRight_53 (tgt := 96) (by decide) (fun c_53 => absurd c_53 (by decide)) (fun c_53 => ?_)
          refine g_iload C dL_areStepsRight_56 1 rfl ?_
          refine g_bipush C dL_areStepsRight_58 (v := 45) (by decide) ?_
          refine g_icmp_eq C dL_areStepsRight_60 (tgt := 92) (by decide) (fun c_60 => ?_) (fun c_60 => ?_)
          · try simp only [sa_ap, si_ap, reduceIte, Nat.reduceEqDiff, up_us, lg_cmp_lt, lg_cmp_gt, lg_cmp_le, lg_cmp_ge] at c_60
            refine g_iconst C dL_areStepsRight_92 (v := 1) (by decide) ?_
            refine g_goto C dL_areStepsRight_93 (tgt := 97) (by decide) ?_
            refine g_istore_n C dL_areStepsRight_97 (L' := [(2, .int 1), (5, .int 0), (4, .int (X 12 i)), (0, .ref (gad G 42)), (1, .ref (gsa G 900)), (3, .int (nI i))]) rfl (by rw [hL]; decide) ?_
            refine g_iinc C dL_areStepsRight_98 5 rfl (v := nI (i + 1)) (nI_1 _) (L' := [(3, .int (nI (i + 1))), (2, .int 1), (5, .int 0), (4, .int (X 12 i)), (0, .ref (gad G 42)), (1, .ref (gsa G 900))]) rfl (by rw [hL]; decide) ?_
            refine g_goto C dL_areStepsRight_101 (tgt := 4) (by decide) ?_
            exact g_sub [4, 5, 1, 0] rfl (ih (i + 1) (by omega))
          · try simp only [sa_ap, si_ap, reduceIte, Nat.reduceEqDiff, up_us, lg_cmp_lt, lg_cmp_gt, lg_cmp_le, lg_cmp_ge] at c_60
            refine g_iload C dL_areStepsRight_63 0 rfl ?_
            refine g_if_eq C dL_areStepsRight_65 (tgt := 92) (by decide) (fun c_65 => ?_) (fun c_65 => absurd (by decide) c_65)
            refine g_iconst C dL_areStepsRight_92 (v := 1) (by decide) ?_
            refine g_goto C dL_areStepsRight_93 (tgt := 97) (by decide) ?_
            refine g_istore_n C dL_areStepsRight_97 (L' := [(2, .int 1), (5, .int 0), (4, .int (X 12 i)), (0, .ref (gad G 42)), (1, .ref (gsa G 900)), (3, .int (nI i))]) rfl (by rw [hL]; decide) ?_
            refine g_iinc C dL_areStepsRight_98 5 rfl (v := nI (i + 1)) (nI_1 _) (L' := [(3, .int (nI (i + 1))), (2, .int 1), (5, .int 0), (4, .int (X 12 i)), (0, .ref (gad G 42)), (1, .ref (gsa G 900))]) rfl (by rw [hL]; decide) ?_
            refine g_goto C dL_areStepsRight_101 (tgt := 4) (by decide) ?_
            exact g_sub [4, 5, 1, 0] rfl (ih (i + 1) (by omega))
        · try simp only [sa_ap, si_ap, reduceIte, Nat.reduceEqDiff, up_us, lg_cmp_lt, lg_cmp_gt, lg_cmp_le, lg_cmp_ge] at c_30
          have hi0 : 0 < i := Nat.pos_of_ne_zero (fun q => c_30 (by rw [q]; decide))
          refine g_aload_n C dL_areStepsRight_33 2 rfl ?_
          refine g_bipush C dL_areStepsRight_34 (v := 19) (by decide) ?_
          refine g_iload_n C dL_areStepsRight_36 4 rfl ?_
          refine g_iadd C dL_areStepsRight_37 ?_
          refine g_topi (by exact nI_add 19 i) ?_
          refine g_iconst C dL_areStepsRight_38 (v := 2) (by decide) ?_
          refine g_callSiW C dL_areStepsRight_39 (c_L_pick _ _ _ _ _ _ _ _ _ (19 + i) (by omega) 2 (by decide) (by decide)) tw399 tw400 tw0 tw401 rfl ⟨by decide +kernel, by decide +kernel, rfl⟩ ⟨rfl, rfl⟩ (by rw [hR]; decide) (Nat.le_of_ble_eq_true rfl) (by rw [hR]; decide) (fun r_3 X1 M1 K1 h_4 => ?_)
          obtain ⟨rfl, hX1, hM1, hK1⟩ := h_4
          subst X1 M1 K1
          refine g_if_ne C dL_areStepsRight_42 (tgt := 49) (by decide) (fun c_42 => ?_) (fun c_42 => ?_)
          · try simp only [sa_ap, si_ap, reduceIte, Nat.reduceEqDiff, up_us, lg_cmp_lt, lg_cmp_gt, lg_cmp_le, lg_cmp_ge] at c_42
            refine g_iconst C dL_areStepsRight_49 (v := 0) (by decide) ?_
            refine g_istore C dL_areStepsRight_50 (L' := [(5, .int 0), (4, .int (X 12 i)), (0, .ref (gad G 42)), (1, .ref (gsa G 900)), (2, .int 1), (3, .int (nI i))]) rfl (by rw [hL]; decide) ?_
            refine g_iload_n C dL_areStepsRight_52 4 rfl ?_
            refine g_if_eq C dL_areStepsRight_53 (tgt := 96) (by decide) (fun c_53 => absurd c_53 (by decide)) (fun c_53 => ?_)
            refine g_iload C dL_areStepsRight_56 1 rfl ?_
            refine g_bipush C dL_areStepsRight_58 (v := 45) (by decide) ?_
            refine g_icmp_eq C dL_areStepsRight_60 (tgt := 92) (by decide) (fun c_60 => ?_) (fun c_60 => ?_)
            · try simp only [sa_ap, si_ap, reduceIte, Nat.reduceEqDiff, up_us, lg_cmp_lt, lg_cmp_gt, lg_cmp_le, lg_cmp_ge] at c_60
              refine g_iconst C dL_areStepsRight_92 (v := 1) (by decide) ?_
              refine g_goto C dL_areStepsRight_93 (tgt := 97) (by decide) ?_
              refine g_istore_n C dL_areStepsRight_97 (L' := [(2, .int 1), (5, .int 0), (4, .int (X 12 i)), (0, .ref (gad G 42)), (1, .ref (gsa G 900)), (3, .int (nI i))]) rfl (by rw [hL]; decide) ?_
              refine g_iinc C dL_areStepsRight_98 5 rfl (v := nI (i + 1)) (nI_1 _) (L' := [(3, .int (nI (i + 1))), (2, .int 1), (5, .int 0), (4, .int (X 12 i)), (0, .ref (gad G 42)), (1, .ref (gsa G 900))]) rfl (by rw [hL]; decide) ?_
              refine g_goto C dL_areStepsRight_101 (tgt := 4) (by decide) ?_
              exact g_sub [4, 5, 1, 0] rfl (ih (i + 1) (by omega))
            · try simp only [sa_ap, si_ap, reduceIte, Nat.reduceEqDiff, up_us, lg_cmp_lt, lg_cmp_gt, lg_cmp_le, lg_cmp_ge] at c_60
              refine g_iload C dL_areStepsRight_63 0 rfl ?_
              refine g_if_eq C dL_areStepsRight_65 (tgt := 92) (by decide) (fun c_65 => ?_) (fun c_65 => absurd (by decide) c_65)
              refine g_iconst C dL_areStepsRight_92 (v := 1) (by decide) ?_
              refine g_goto C dL_areStepsRight_93 (tgt := 97) (by decide) ?_
              refine g_istore_n C dL_areStepsRight_97 (L' := [(2, .int 1), (5, .int 0), (4, .int (X 12 i)), (0, .ref (gad G 42)), (1, .ref (gsa G 900)), (3, .int (nI i))]) rfl (by rw [hL]; decide) ?_
              refine g_iinc C dL_areStepsRight_98 5 rfl (v := nI (i + 1)) (nI_1 _) (L' := [(3, .int (nI (i + 1))), (2, .int 1), (5, .int 0), (4, .int (X 12 i)), (0, .ref (gad G 42)), (1, .ref (gsa G 900))]) rfl (by rw [hL]; decide) ?_
              refine g_goto C dL_areStepsRight_101 (tgt := 4) (by decide) ?_
              exact g_sub [4, 5, 1, 0] rfl (ih (i + 1) (by omega))
          · try simp only [sa_ap, si_ap, reduceIte, Nat.reduceEqDiff, up_us, lg_cmp_lt, lg_cmp_gt, lg_cmp_le, lg_cmp_ge] at c_42
            refine g_iconst C dL_areStepsRight_45 (v := 1) (by decide) ?_
            refine g_goto C dL_areStepsRight_46 (tgt := 50) (by decide) ?_
            refine g_istore C dL_areStepsRight_50 (L' := [(5, .int 1), (4, .int (X 12 i)), (0, .ref (gad G 42)), (1, .ref (gsa G 900)), (2, .int 1), (3, .int (nI i))]) rfl (by rw [hL]; decide) ?_
            refine g_iload_n C dL_areStepsRight_52 4 rfl ?_
            refine g_if_eq C dL_areStepsRight_53 (tgt := 96) (by decide) (fun c_53 => absurd c_53 (by decide)) (fun c_53 => ?_)
            refine g_iload C dL_areStepsRight_56 1 rfl ?_
            refine g_bipush C dL_areStepsRight_58 (v := 45) (by decide) ?_
            refine g_icmp_eq C dL_areStepsRight_60 (tgt := 92) (by decide) (fun c_60 => ?_) (fun c_60 => ?_)
            · try simp only [sa_ap, si_ap, reduceIte, Nat.reduceEqDiff, up_us, lg_cmp_lt, lg_cmp_gt, lg_cmp_le, lg_cmp_ge] at c_60
              refine g_iconst C dL_areStepsRight_92 (v := 1) (by decide) ?_
              refine g_goto C dL_areStepsRight_93 (tgt := 97) (by decide) ?_
              refine g_istore_n C dL_areStepsRight_97 (L' := [(2, .int 1), (5, .int 1), (4, .int (X 12 i)), (0, .ref (gad G 42)), (1, .ref (gsa G 900)), (3, .int (nI i))]) rfl (by rw [hL]; decide) ?_
              refine g_iinc C dL_areStepsRight_98 5 rfl (v := nI (i + 1)) (nI_1 _) (L' := [(3, .int (nI (i + 1))), (2, .int 1), (5, .int 1), (4, .int (X 12 i)), (0, .ref (gad G 42)), (1, .ref (gsa G 900))]) rfl (by rw [hL]; decide) ?_
              refine g_goto C dL_areStepsRight_101 (tgt := 4) (by decide) ?_
              exact g_sub [4, 5, 1, 0] rfl (ih (i + 1) (by omega))
            · try simp only [sa_ap, si_ap, reduceIte, Nat.reduceEqDiff, up_us, lg_cmp_lt, lg_cmp_gt, lg_cmp_le, lg_cmp_ge] at c_60
              refine g_iload C dL_areStepsRight_63 0 rfl ?_
              refine g_if_eq C dL_areStepsRight_65 (tgt := 92) (by decide) (fun c_65 => absurd c_65 (by decide)) (fun c_65 => ?_)
              refine g_aload_n C dL_areStepsRight_68 2 rfl ?_
              refine gf_L_o C tw363 dL_areStepsRight_69 ?_
              refine g_bipush C dL_areStepsRight_72 (v := 21) (by decide) ?_
              refine g_aload_n C dL_areStepsRight_74 3 rfl ?_
              refine g_bipush C dL_areStepsRight_75 (v := 24) (by decide) ?_
              refine g_iload_n C dL_areStepsRight_77 5 rfl ?_
              refine g_iadd C dL_areStepsRight_78 ?_
              refine g_topi (by exact nI_add 24 i) ?_
              refine g_iload_n C dL_areStepsRight_79 5 rfl ?_
              refine g_callSiW C dL_areStepsRight_80 (c_L_pick _ _ _ _ _ _ _ _ _ (24 + i) (by omega) i hi0 (by omega)) tw399 tw400 tw0 tw401 rfl ⟨by decide +kernel, by decide +kernel, rfl⟩ ⟨rfl, rfl⟩ (by rw [hR]; decide) (Nat.le_of_ble_eq_true rfl) (by rw [hR]; decide) (fun r_5 X1 M1 K1 h_6 => ?_)
              obtain ⟨rfl, hX1, hM1, hK1⟩ := h_6
              subst X1 M1 K1
              refine g_iconst C dL_areStepsRight_83 (v := 0) (by decide) ?_
              refine g_callSiW C dL_areStepsRight_84 (c_ask_21 _ _ _ _ _ _ _ _ _ (pn (gsa G) (24 + i) i) 5 hz (by decide) (by have := pn_lt (gsa G) (24 + i) hi0; omega) hc _) tw1112 tw1113 tw0 tw1114 rfl ⟨by decide +kernel, by decide +kernel, rfl⟩ ⟨rfl, rfl⟩ (by rw [hR]; decide) (Nat.le_of_ble_eq_true rfl) (by rw [hR]; decide) (fun r_7 X1 M1 K1 h_8 => ?_)
              obtain ⟨rfl, hX1, hM1, hK1⟩ := h_8
              subst X1 M1 K1
              refine g_bipush C dL_areStepsRight_87 (v := 101) (by decide) ?_
              refine g_icmp_ne C dL_areStepsRight_89 (tgt := 96) (by decide) (fun c_89 => absurd c_89 (not_not_intro ((hs c_13 i (by omega) ⟨hi0, pn0 (by decide) (by decide) c_42⟩).resolve_left c_60))) (fun c_89 => ?_)
              refine g_iconst C dL_areStepsRight_92 (v := 1) (by decide) ?_
              refine g_goto C dL_areStepsRight_93 (tgt := 97) (by decide) ?_
              refine g_istore_n C dL_areStepsRight_97 (L' := [(2, .int 1), (5, .int 1), (4, .int (X 12 i)), (0, .ref (gad G 42)), (1, .ref (gsa G 900)), (3, .int (nI i))]) rfl (by rw [hL]; decide) ?_
              refine g_iinc C dL_areStepsRight_98 5 rfl (v := nI (i + 1)) (nI_1 _) (L' := [(3, .int (nI (i + 1))), (2, .int 1), (5, .int 1), (4, .int (X 12 i)), (0, .ref (gad G 42)), (1, .ref (gsa G 900))]) rfl (by rw [hL]; decide) ?_
              refine g_goto C dL_areStepsRight_101 (tgt := 4) (by decide) ?_
              exact g_sub [4, 5, 1, 0] rfl (ih (i + 1) (by omega))
  exact g_sub [2, 3, 1, 0] rfl (lp4 (5) 0 (by omega))

set_option maxHeartbeats 400000 in
set_option maxRecDepth 100000 in
/-- isHeldRight.isHeldRight -/
theorem c_L_isHeldRight (l : Launch) (D : va_G) (cy : Nat → ClassId) (A : Nat → Prop) (ad sad : Nat → Nat) (X M : XF) (K : KF) (p2 : Int32) (hz : X 105 0 = nI 6) (ho : ∀ j : Nat, j < 6 → okAb (X 25 j) (X 26 j)) (h4 : X 118 0 = 104) (hc : isCh (X 111 0)) (hat : X 106 0 = p2) (h1 : ∀ f : Nat, lf sad X M p2 6 0 = f → f < 6 → X 111 0 = kndB.getD f 0 ∧ X 112 0 = nI f) (h2 : lf sad X M p2 6 0 = 6 → X 112 0 = -1 ∧ (X 111 0 = 109 ∨ X 111 0 = 111 ∧ p2 = -1 ∧ X 101 0 < M 100 0)) (hst : l.stackTraces = false) : Met l yL_isHeldRight (wsA yL_isHeldRight cL_isHeldRight 7 (some .boolean)) ({ frames := 16, cells := 1, slots := 6, locals := 435 }) (PcW D cy A ad sad X M K [.ref (ad 42), .ref (sad 900), .int p2]) (QiW D cy A ad (fun r X1 M1 K1 => r = 1 ∧ X1 = X ∧ M1 = M ∧ K1 = K)) 1 6 A := by
  refine met_ofW [(0, .ref (ad 42)), (1, .ref (sad 900)), (2, .int p2)] (by decide +kernel) (Nat.le_of_ble_eq_true rfl) rfl ?_
  intro G C hl hR hL hD hcy hA had hsa hr hQ
  subst hD hcy hA had hsa hl
  have hrc : (gR G).cells = 1 := by rw [hR]
  have hrs : (gR G).slots = 6 := by rw [hR]
  have hb : xk_beg (X 118 0) = 0 := by rw [h4]; decide
  have hcau : xk_cau (X 118 0) = 0 := by rw [h4]; decide
  have hl6 := lf_le (gsa G) X M p2 6 0
  refine g_aload_n C dL_isHeldRight_0 0 rfl ?_
  refine g_aload_n C dL_isHeldRight_1 1 rfl ?_
  refine g_iload_n C dL_isHeldRight_2 2 rfl ?_
  refine g_callViW C dL_isHeldRight_3 (c_L_firstNotMet _ _ _ _ _ _ _ _ _ p2 hz ho) tw1178 tw1180 tp22 tw0 tw1181 (rv_L C) rfl ⟨by decide +kernel, by decide +kernel, rfl⟩ ⟨rfl, rfl⟩ (by rw [hR]; exact ⟨Nat.le_of_ble_eq_true rfl, Nat.le_of_ble_eq_true rfl⟩) (Nat.le_of_ble_eq_true rfl) (by omega) (fun r_1 X1 M1 K1 h_2 => ?_)
  obtain ⟨rfl, hX1, hM1, hK1⟩ := h_2
  subst X1 M1 K1
  generalize hf : lf (gsa G) X M p2 6 0 = f at *
  refine g_topi (y := nI f) rfl ?_
  refine g_istore_n C dL_isHeldRight_6 (L' := [(3, .int (nI f)), (0, .ref (gad G 42)), (1, .ref (gsa G 900)), (2, .int p2)]) rfl (by rw [hL]; decide) ?_
  refine g_aload_n C dL_isHeldRight_7 1 rfl ?_
  refine gf_L_o C tw363 dL_isHeldRight_8 ?_
  refine g_bipush C dL_isHeldRight_11 (v := 27) (by decide) ?_
  refine g_iconst C dL_isHeldRight_13 (v := 0) (by decide) ?_
  refine g_iconst C dL_isHeldRight_14 (v := 0) (by decide) ?_
  refine g_callSiW C dL_isHeldRight_15 (c_ask_27 _ _ _ _ _ _ _ _ _ hc hcau _ _) tw1112 tw1113 tw0 tw1114 rfl ⟨by decide +kernel, by decide +kernel, rfl⟩ ⟨rfl, rfl⟩ (by rw [hR]; exact ⟨Nat.le_of_ble_eq_true rfl, Nat.le_of_ble_eq_true rfl⟩) (Nat.le_of_ble_eq_true rfl) (by omega) (fun r_3 X1 M1 K1 h_4 => ?_)
  obtain ⟨rfl, hX1, hM1, hK1⟩ := h_4
  subst X1 M1 K1
  refine g_istore C dL_isHeldRight_18 (L' := [(4, .int (X 111 0)), (3, .int (nI f)), (0, .ref (gad G 42)), (1, .ref (gsa G 900)), (2, .int p2)]) rfl (by rw [hL]; decide) ?_
  refine g_iload_n C dL_isHeldRight_20 1 rfl ?_
  refine g_bipush C dL_isHeldRight_21 (v := 6) (by decide) ?_
  refine g_icmp_ge C dL_isHeldRight_23 (tgt := 30) (by decide) (fun c_23 => ?_) (fun c_23 => ?_)
  · try simp only [sa_ap, si_ap, reduceIte, Nat.reduceEqDiff, up_us, lg_cmp_lt, lg_cmp_gt, lg_cmp_le, lg_cmp_ge] at c_23
    have f6 : f = 6 := by have := (nI_leI (by decide) (by omega)).mp (show nI 6 ≤ nI f from c_23); omega
    obtain ⟨k1, k2⟩ := h2 f6
    refine g_iconst C dL_isHeldRight_30 (v := 0) (by decide) ?_
    refine g_istore C dL_isHeldRight_31 (L' := [(5, .int 0), (4, .int (X 111 0)), (3, .int (nI f)), (0, .ref (gad G 42)), (1, .ref (gsa G 900)), (2, .int p2)]) rfl (by rw [hL]; decide) ?_
    refine g_iload C dL_isHeldRight_33 0 rfl ?_
    refine g_if_eq C dL_isHeldRight_35 (tgt := 72) (by decide) (fun c_35 => ?_) (fun c_35 => absurd (by decide) c_35)
    refine g_iload C dL_isHeldRight_72 1 rfl ?_
    refine g_bipush C dL_isHeldRight_74 (v := 109) (by decide) ?_
    refine g_icmp_eq C dL_isHeldRight_76 (tgt := 105) (by decide) (fun c_76 => ?_) (fun c_76 => ?_)
    · try simp only [sa_ap, si_ap, reduceIte, Nat.reduceEqDiff, up_us, lg_cmp_lt, lg_cmp_gt, lg_cmp_le, lg_cmp_ge] at c_76
      refine g_aload_n C dL_isHeldRight_105 3 rfl ?_
      refine gf_L_o C tw363 dL_isHeldRight_106 ?_
      refine g_bipush C dL_isHeldRight_109 (v := 28) (by decide) ?_
      refine g_iconst C dL_isHeldRight_111 (v := 0) (by decide) ?_
      refine g_iconst C dL_isHeldRight_112 (v := 0) (by decide) ?_
      refine g_callSiW C dL_isHeldRight_113 (c_ask_28 _ _ _ _ _ _ _ _ _ hst _ _) tw1112 tw1113 tw0 tw1114 rfl ⟨by decide +kernel, by decide +kernel, rfl⟩ ⟨rfl, rfl⟩ (by rw [hR]; exact ⟨Nat.le_of_ble_eq_true rfl, Nat.le_of_ble_eq_true rfl⟩) (Nat.le_of_ble_eq_true rfl) (by omega) (fun r_5 X1 M1 K1 h_6 => ?_)
      rcases h_6 with ⟨c_ok113, er_5, hX1, hM1, hK1⟩ | ⟨E9, ⟨c_no113, hE9, hX1, hM1, hK1⟩, er_5⟩
      · exact absurd (c_ok113) (by rw [h4, k1]; decide)
      · subst X1 M1 K1
        subst hE9
        refine g_topi (y := (-20005)) (er_5.trans (by rw [h4, k1]; decide)) ?_
        refine g_sipush C dL_isHeldRight_116 (v := (-20005)) (by decide) ?_
        refine g_icmp_ne C dL_isHeldRight_119 (tgt := 126) (by decide) (fun c_119 => absurd c_119 (by decide)) (fun c_119 => ?_)
        refine g_iconst C dL_isHeldRight_122 (v := 1) (by decide) ?_
        refine g_goto C dL_isHeldRight_123 (tgt := 127) (by decide) ?_
        refine g_istore C dL_isHeldRight_127 (L' := [(6, .int 1), (5, .int 0), (4, .int (X 111 0)), (3, .int (nI f)), (0, .ref (gad G 42)), (1, .ref (gsa G 900)), (2, .int p2)]) rfl (by rw [hL]; decide) ?_
        refine g_iload C dL_isHeldRight_129 0 rfl ?_
        refine g_if_eq C dL_isHeldRight_131 (tgt := 153) (by decide) (fun c_131 => absurd c_131 (by decide)) (fun c_131 => ?_)
        refine g_aload_n C dL_isHeldRight_134 4 rfl ?_
        refine gf_L_o C tw363 dL_isHeldRight_135 ?_
        refine g_bipush C dL_isHeldRight_138 (v := 25) (by decide) ?_
        refine g_iconst C dL_isHeldRight_140 (v := 0) (by decide) ?_
        refine g_iconst C dL_isHeldRight_141 (v := 0) (by decide) ?_
        refine g_callSiW C dL_isHeldRight_142 (c_ask_25 _ _ _ _ _ _ _ _ _ hb _ _) tw1112 tw1113 tw0 tw1114 rfl ⟨by decide +kernel, by decide +kernel, rfl⟩ ⟨rfl, rfl⟩ (by rw [hR]; exact ⟨Nat.le_of_ble_eq_true rfl, Nat.le_of_ble_eq_true rfl⟩) (Nat.le_of_ble_eq_true rfl) (by omega) (fun r_7 X1 M1 K1 h_8 => ?_)
        obtain ⟨rfl, hX1, hM1, hK1⟩ := h_8
        subst X1 M1 K1
        refine g_iload_n C dL_isHeldRight_145 6 rfl ?_
        refine g_icmp_ne C dL_isHeldRight_146 (tgt := 153) (by decide) (fun c_146 => absurd c_146 (not_not_intro hat)) (fun c_146 => ?_)
        refine g_iconst C dL_isHeldRight_149 (v := 1) (by decide) ?_
        refine g_goto C dL_isHeldRight_150 (tgt := 154) (by decide) ?_
        refine g_zretW C hr (by decide) hQ (by omega) (by omega) dL_isHeldRight_154 ?_
        exact ⟨rfl, rfl, rfl, rfl⟩
    · try simp only [sa_ap, si_ap, reduceIte, Nat.reduceEqDiff, up_us, lg_cmp_lt, lg_cmp_gt, lg_cmp_le, lg_cmp_ge] at c_76
      obtain ⟨k3, k4, k5⟩ := k2.resolve_left c_76
      refine g_iload C dL_isHeldRight_79 1 rfl ?_
      refine g_bipush C dL_isHeldRight_81 (v := 111) (by decide) ?_
      refine g_icmp_ne C dL_isHeldRight_83 (tgt := 126) (by decide) (fun c_83 => absurd c_83 (not_not_intro k3)) (fun c_83 => ?_)
      refine g_iload_n C dL_isHeldRight_86 5 rfl ?_
      refine g_iconst C dL_isHeldRight_87 (v := (-1)) (by decide) ?_
      refine g_icmp_ne C dL_isHeldRight_88 (tgt := 126) (by decide) (fun c_88 => absurd c_88 (not_not_intro k4)) (fun c_88 => ?_)
      refine g_aload_n C dL_isHeldRight_91 3 rfl ?_
      refine gf_L_o C tw363 dL_isHeldRight_92 ?_
      refine g_callViW C dL_isHeldRight_95 (c_X10_second _ _ _ _ _ _ _ _ _ ) tw1137 tw1138 tw1139 tw1 tw1140 (rv_X10 C) rfl ⟨by decide +kernel, by decide +kernel, rfl⟩ ⟨rfl, rfl⟩ (by rw [hR]; exact ⟨Nat.le_of_ble_eq_true rfl, Nat.le_of_ble_eq_true rfl⟩) (Nat.le_of_ble_eq_true rfl) (by omega) (fun r_9 X1 M1 K1 h_10 => ?_)
      obtain ⟨rfl, hX1, hM1, hK1⟩ := h_10
      subst X1 M1 K1
      refine g_aload_n C dL_isHeldRight_98 3 rfl ?_
      refine gf_L_opens C tw369 dL_isHeldRight_99 ?_
      refine g_icmp_ge C dL_isHeldRight_102 (tgt := 126) (by decide) (fun c_102 => absurd c_102 (fun q => absurd k5 (Int32.not_lt.mpr q))) (fun c_102 => ?_)
      refine g_aload_n C dL_isHeldRight_105 3 rfl ?_
      refine gf_L_o C tw363 dL_isHeldRight_106 ?_
      refine g_bipush C dL_isHeldRight_109 (v := 28) (by decide) ?_
      refine g_iconst C dL_isHeldRight_111 (v := 0) (by decide) ?_
      refine g_iconst C dL_isHeldRight_112 (v := 0) (by decide) ?_
      refine g_callSiW C dL_isHeldRight_113 (c_ask_28 _ _ _ _ _ _ _ _ _ hst _ _) tw1112 tw1113 tw0 tw1114 rfl ⟨by decide +kernel, by decide +kernel, rfl⟩ ⟨rfl, rfl⟩ (by rw [hR]; exact ⟨Nat.le_of_ble_eq_true rfl, Nat.le_of_ble_eq_true rfl⟩) (Nat.le_of_ble_eq_true rfl) (by omega) (fun r_11 X1 M1 K1 h_12 => ?_)
      rcases h_12 with ⟨c_ok113, er_11, hX1, hM1, hK1⟩ | ⟨E9, ⟨c_no113, hE9, hX1, hM1, hK1⟩, er_11⟩
      · exact absurd (c_ok113) (by rw [h4, k1]; decide)
      · subst X1 M1 K1
        subst hE9
        refine g_topi (y := (-20005)) (er_11.trans (by rw [h4, k1]; decide)) ?_
        refine g_sipush C dL_isHeldRight_116 (v := (-20005)) (by decide) ?_
        refine g_icmp_ne C dL_isHeldRight_119 (tgt := 126) (by decide) (fun c_119 => absurd c_119 (by decide)) (fun c_119 => ?_)
        refine g_iconst C dL_isHeldRight_122 (v := 1) (by decide) ?_
        refine g_goto C dL_isHeldRight_123 (tgt := 127) (by decide) ?_
        refine g_istore C dL_isHeldRight_127 (L' := [(6, .int 1), (5, .int 0), (4, .int (X 111 0)), (3, .int (nI f)), (0, .ref (gad G 42)), (1, .ref (gsa G 900)), (2, .int p2)]) rfl (by rw [hL]; decide) ?_
        refine g_iload C dL_isHeldRight_129 0 rfl ?_
        refine g_if_eq C dL_isHeldRight_131 (tgt := 153) (by decide) (fun c_131 => absurd c_131 (by decide)) (fun c_131 => ?_)
        refine g_aload_n C dL_isHeldRight_134 4 rfl ?_
        refine gf_L_o C tw363 dL_isHeldRight_135 ?_
        refine g_bipush C dL_isHeldRight_138 (v := 25) (by decide) ?_
        refine g_iconst C dL_isHeldRight_140 (v := 0) (by decide) ?_
        refine g_iconst C dL_isHeldRight_141 (v := 0) (by decide) ?_
        refine g_callSiW C dL_isHeldRight_142 (c_ask_25 _ _ _ _ _ _ _ _ _ hb _ _) tw1112 tw1113 tw0 tw1114 rfl ⟨by decide +kernel, by decide +kernel, rfl⟩ ⟨rfl, rfl⟩ (by rw [hR]; exact ⟨Nat.le_of_ble_eq_true rfl, Nat.le_of_ble_eq_true rfl⟩) (Nat.le_of_ble_eq_true rfl) (by omega) (fun r_13 X1 M1 K1 h_14 => ?_)
        obtain ⟨rfl, hX1, hM1, hK1⟩ := h_14
        subst X1 M1 K1
        refine g_iload_n C dL_isHeldRight_145 6 rfl ?_
        refine g_icmp_ne C dL_isHeldRight_146 (tgt := 153) (by decide) (fun c_146 => absurd c_146 (not_not_intro hat)) (fun c_146 => ?_)
        refine g_iconst C dL_isHeldRight_149 (v := 1) (by decide) ?_
        refine g_goto C dL_isHeldRight_150 (tgt := 154) (by decide) ?_
        refine g_zretW C hr (by decide) hQ (by omega) (by omega) dL_isHeldRight_154 ?_
        exact ⟨rfl, rfl, rfl, rfl⟩
  · try simp only [sa_ap, si_ap, reduceIte, Nat.reduceEqDiff, up_us, lg_cmp_lt, lg_cmp_gt, lg_cmp_le, lg_cmp_ge] at c_23
    have f6 : f < 6 := Nat.lt_of_not_le (fun q => c_23 ((nI_leI (by decide) (by omega)).mpr q))
    obtain ⟨k1, k2⟩ := h1 f rfl f6
    refine g_iconst C dL_isHeldRight_26 (v := 1) (by decide) ?_
    refine g_goto C dL_isHeldRight_27 (tgt := 31) (by decide) ?_
    refine g_istore C dL_isHeldRight_31 (L' := [(5, .int 1), (4, .int (X 111 0)), (3, .int (nI f)), (0, .ref (gad G 42)), (1, .ref (gsa G 900)), (2, .int p2)]) rfl (by rw [hL]; decide) ?_
    refine g_iload C dL_isHeldRight_33 0 rfl ?_
    refine g_if_eq C dL_isHeldRight_35 (tgt := 72) (by decide) (fun c_35 => absurd c_35 (by decide)) (fun c_35 => ?_)
    refine g_iload C dL_isHeldRight_38 1 rfl ?_
    refine g_kldc1000 C dL_isHeldRight_40 ?_
    refine g_iload_n C dL_isHeldRight_42 2 rfl ?_
    refine g_callKiP0 C rfl (c0_J0_charAt_5068e _ _ _ _ _ _ f f6) tw1116 tw1117 tw1118 tw14 tw1119 rfl ⟨by decide +kernel, by decide +kernel, rfl⟩ ⟨rfl, rfl⟩ (by rw [hR]; exact ⟨Nat.le_of_ble_eq_true rfl, Nat.le_of_ble_eq_true rfl⟩) (Nat.le_of_ble_eq_true rfl) dL_isHeldRight_43 (by omega) (fun r_15 h_16 => ?_)
    refine g_topi (y := kndB.getD f 0) h_16 ?_
    refine g_icmp_ne C dL_isHeldRight_46 (tgt := 68) (by decide) (fun c_46 => absurd c_46 (not_not_intro k1)) (fun c_46 => ?_)
    refine g_aload_n C dL_isHeldRight_49 3 rfl ?_
    refine gf_L_o C tw363 dL_isHeldRight_50 ?_
    refine g_bipush C dL_isHeldRight_53 (v := 28) (by decide) ?_
    refine g_iconst C dL_isHeldRight_55 (v := 0) (by decide) ?_
    refine g_iconst C dL_isHeldRight_56 (v := 0) (by decide) ?_
    refine g_callSiW C dL_isHeldRight_57 (c_ask_28 _ _ _ _ _ _ _ _ _ hst _ _) tw1112 tw1113 tw0 tw1114 rfl ⟨by decide +kernel, by decide +kernel, rfl⟩ ⟨rfl, rfl⟩ (by rw [hR]; exact ⟨Nat.le_of_ble_eq_true rfl, Nat.le_of_ble_eq_true rfl⟩) (Nat.le_of_ble_eq_true rfl) (by omega) (fun r_17 X1 M1 K1 h_18 => ?_)
    rcases h_18 with ⟨c_ok57, er_17, hX1, hM1, hK1⟩ | ⟨E9, ⟨c_no57, hE9, hX1, hM1, hK1⟩, er_17⟩
    · subst X1 M1 K1
      refine g_topi (y := nI f) (er_17.trans k2) ?_
      refine g_iload_n C dL_isHeldRight_60 2 rfl ?_
      refine g_icmp_ne C dL_isHeldRight_61 (tgt := 68) (by decide) (fun c_61 => absurd c_61 (not_not_intro rfl)) (fun c_61 => ?_)
      refine g_iconst C dL_isHeldRight_64 (v := 1) (by decide) ?_
      refine g_goto C dL_isHeldRight_65 (tgt := 127) (by decide) ?_
      refine g_istore C dL_isHeldRight_127 (L' := [(6, .int 1), (5, .int 1), (4, .int (X 111 0)), (3, .int (nI f)), (0, .ref (gad G 42)), (1, .ref (gsa G 900)), (2, .int p2)]) rfl (by rw [hL]; decide) ?_
      refine g_iload C dL_isHeldRight_129 0 rfl ?_
      refine g_if_eq C dL_isHeldRight_131 (tgt := 153) (by decide) (fun c_131 => absurd c_131 (by decide)) (fun c_131 => ?_)
      refine g_aload_n C dL_isHeldRight_134 4 rfl ?_
      refine gf_L_o C tw363 dL_isHeldRight_135 ?_
      refine g_bipush C dL_isHeldRight_138 (v := 25) (by decide) ?_
      refine g_iconst C dL_isHeldRight_140 (v := 0) (by decide) ?_
      refine g_iconst C dL_isHeldRight_141 (v := 0) (by decide) ?_
      refine g_callSiW C dL_isHeldRight_142 (c_ask_25 _ _ _ _ _ _ _ _ _ hb _ _) tw1112 tw1113 tw0 tw1114 rfl ⟨by decide +kernel, by decide +kernel, rfl⟩ ⟨rfl, rfl⟩ (by rw [hR]; exact ⟨Nat.le_of_ble_eq_true rfl, Nat.le_of_ble_eq_true rfl⟩) (Nat.le_of_ble_eq_true rfl) (by omega) (fun r_19 X1 M1 K1 h_20 => ?_)
      obtain ⟨rfl, hX1, hM1, hK1⟩ := h_20
      subst X1 M1 K1
      refine g_iload_n C dL_isHeldRight_145 6 rfl ?_
      refine g_icmp_ne C dL_isHeldRight_146 (tgt := 153) (by decide) (fun c_146 => absurd c_146 (not_not_intro hat)) (fun c_146 => ?_)
      refine g_iconst C dL_isHeldRight_149 (v := 1) (by decide) ?_
      refine g_goto C dL_isHeldRight_150 (tgt := 154) (by decide) ?_
      refine g_zretW C hr (by decide) hQ (by omega) (by omega) dL_isHeldRight_154 ?_
      exact ⟨rfl, rfl, rfl, rfl⟩
    · exact absurd (by rw [h4, k2]; unfold xk_car; rw [if_neg (by decide), if_neg (nI_nneg (by omega) (by decide))]) c_no57

set_option maxHeartbeats 2000000 in
set_option maxRecDepth 100000 in
/-- begins.begins -/
theorem c_L_begins (l : Launch) (D : va_G) (cy : Nat → ClassId) (A : Nat → Prop) (ad sad : Nat → Nat) (X M : XF) (K : KF) (i : Nat) (hi : i < 2 ^ 19) (e v z5 : Nat) (I : IV sad e v z5 X M K) (he : e + 1 ≤ v + 2) (hst : l.stackTraces = false) : Met l yL_begins (wsA yL_begins cL_begins 8 (some .boolean)) ({ frames := 14, cells := 11, slots := 32006, locals := 386 }) (PcW D cy A ad sad X M K [.ref (ad 42), .ref (sad 900), .int (nI i)]) (QiW D cy A ad (fun r X1 M1 K1 => r = 1 ∧ IV sad (e + 1) v z5 X1 M1 K1 ∧ ¬ X1 118 0 = 45)) 11 32006 A := by
  refine met_ofW [(0, .ref (ad 42)), (1, .ref (sad 900)), (2, .int (nI i))] (by decide +kernel) (Nat.le_of_ble_eq_true rfl) rfl ?_
  intro G C hl hR hL hD hcy hA had hsa hr hQ
  subst hD hcy hA had hsa hl
  have hrc : (gR G).cells = 11 := by rw [hR]
  have hrs : (gR G).slots = 32006 := by rw [hR]
  have hv := I.lv
  have hnum := I.num
  have hls := I.ls (cs := [67]) (by decide)
  have la := pn_lt (gsa G) i (m := 12) (by decide)
  have lb := pn_lt (gsa G) (i + 1) (m := 30) (by decide)
  have lc := pn_lt (gsa G) (i + 2) (m := 40) (by decide)
  refine g_bipush C dL_begins_0 (v := (-10)) (by decide) ?_
  refine g_aload_n C dL_begins_2 1 rfl ?_
  refine g_iload_n C dL_begins_3 2 rfl ?_
  refine g_bipush C dL_begins_4 (v := 12) (by decide) ?_
  refine g_callSiW C dL_begins_6 (c_L_pick _ _ _ _ _ _ _ _ _ (i) (by omega) 12 (by decide) (by decide)) tw399 tw400 tw0 tw401 rfl ⟨by decide +kernel, by decide +kernel, rfl⟩ ⟨rfl, rfl⟩ (by rw [hR]; exact ⟨Nat.le_of_ble_eq_true rfl, Nat.le_of_ble_eq_true rfl⟩) (Nat.le_of_ble_eq_true rfl) (by omega) (fun r_1 X1 M1 K1 h_2 => ?_)
  obtain ⟨rfl, hX1, hM1, hK1⟩ := h_2
  subst X1 M1 K1
  refine g_isub C dL_begins_9 ?_
  refine g_namei (fun cv ecv => ?_)
  refine g_istore_n C dL_begins_10 (L' := [(3, .int cv), (0, .ref (gad G 42)), (1, .ref (gsa G 900)), (2, .int (nI i))]) rfl (by rw [hL]; decide) ?_
  refine g_aload_n C dL_begins_11 2 rfl ?_
  refine g_iload_n C dL_begins_12 3 rfl ?_
  refine g_iconst C dL_begins_13 (v := 1) (by decide) ?_
  refine g_iadd C dL_begins_14 ?_
  refine g_topi (nI_1 i) ?_
  refine g_bipush C dL_begins_15 (v := 30) (by decide) ?_
  refine g_callSiW C dL_begins_17 (c_L_pick _ _ _ _ _ _ _ _ _ (i + 1) (by omega) 30 (by decide) (by decide)) tw399 tw400 tw0 tw401 rfl ⟨by decide +kernel, by decide +kernel, rfl⟩ ⟨rfl, rfl⟩ (by rw [hR]; exact ⟨Nat.le_of_ble_eq_true rfl, Nat.le_of_ble_eq_true rfl⟩) (Nat.le_of_ble_eq_true rfl) (by omega) (fun r_3 X1 M1 K1 h_4 => ?_)
  obtain ⟨rfl, hX1, hM1, hK1⟩ := h_4
  subst X1 M1 K1
  refine g_istore C dL_begins_20 (L' := [(4, .int (nI (pn (gsa G) (i + 1) 30))), (3, .int cv), (0, .ref (gad G 42)), (1, .ref (gsa G 900)), (2, .int (nI i))]) rfl (by rw [hL]; decide) ?_
  refine g_iload C dL_begins_22 0 rfl ?_
  refine g_aload_n C dL_begins_24 3 rfl ?_
  refine g_iload_n C dL_begins_25 4 rfl ?_
  refine g_iconst C dL_begins_26 (v := 2) (by decide) ?_
  refine g_iadd C dL_begins_27 ?_
  refine g_topi (by exact nI_add i 2) ?_
  refine g_bipush C dL_begins_28 (v := 40) (by decide) ?_
  refine g_callSiW C dL_begins_30 (c_L_pick _ _ _ _ _ _ _ _ _ (i + 2) (by omega) 40 (by decide) (by decide)) tw399 tw400 tw0 tw401 rfl ⟨by decide +kernel, by decide +kernel, rfl⟩ ⟨rfl, rfl⟩ (by rw [hR]; exact ⟨Nat.le_of_ble_eq_true rfl, Nat.le_of_ble_eq_true rfl⟩) (Nat.le_of_ble_eq_true rfl) (by omega) (fun r_5 X1 M1 K1 h_6 => ?_)
  obtain ⟨rfl, hX1, hM1, hK1⟩ := h_6
  subst X1 M1 K1
  refine g_iadd C dL_begins_33 ?_
  refine g_topi (y := nI (pn (gsa G) (i + 1) 30 + pn (gsa G) (i + 2) 40)) (nI_add _ _) ?_
  refine g_istore C dL_begins_34 (L' := [(5, .int (nI (pn (gsa G) (i + 1) 30 + pn (gsa G) (i + 2) 40))), (4, .int (nI (pn (gsa G) (i + 1) 30))), (3, .int cv), (0, .ref (gad G 42)), (1, .ref (gsa G 900)), (2, .int (nI i))]) rfl (by rw [hL]; decide) ?_
  refine g_aload_n C dL_begins_36 3 rfl ?_
  refine gf_L_o C tw363 dL_begins_37 ?_
  have hcode := bg_code (st := X 118 0) ecv la lb lc
  refine g_bipush C dL_begins_40 (v := 15) (by decide) ?_
  refine g_iload_n C dL_begins_42 2 rfl ?_
  refine g_iload C dL_begins_43 1 rfl ?_
  refine g_iload C dL_begins_45 0 rfl ?_
  refine g_iconst C dL_begins_47 (v := 0) (by decide) ?_
  refine g_iconst C dL_begins_48 (v := 0) (by decide) ?_
  refine g_callH C dL_begins_49 (c_deedf_15 _ _ _ _ _ _ _ _ _ cv (nI (pn (gsa G) (i + 1) 30)) (nI (pn (gsa G) (i + 1) 30 + pn (gsa G) (i + 2) 40)) v 6 z5 5 I.okS (by decide) I.l5 (by decide) (by omega) hnum.1 (by omega) hst 0 0) tw407 tw408 tw0 tw409 rfl ⟨by decide +kernel, by decide +kernel, rfl⟩ ⟨rfl, rfl⟩ (by rw [hR]; exact ⟨Nat.le_of_ble_eq_true rfl, Nat.le_of_ble_eq_true rfl⟩) (Nat.le_of_ble_eq_true rfl) (by omega) (fun r_7 X1 M1 K1 h_8 => ?_)
  rcases h_8 with ⟨c_ok49, er_7, hX1, hM1, hK1⟩ | ⟨E9, ⟨c_no49, hE9, hX1, hM1, hK1⟩, er_7⟩
  · subst X1 M1 K1
    have hpf : xk_pf (X 118 0) = 0 := by rw [hcode] at c_ok49; exact Decidable.byContradiction (fun q => by rw [if_neg q] at c_ok49; exact absurd c_ok49 (by decide))
    refine g_topi (y := nI (v + (10 + pn (gsa G) i 12))) (er_7.trans (by rw [I.x1, ecv]; exact bg_r hv la)) ?_
    refine g_istore C dL_begins_52 (L' := [(6, .int (nI (v + (10 + pn (gsa G) i 12)))), (5, .int (nI (pn (gsa G) (i + 1) 30 + pn (gsa G) (i + 2) 40))), (4, .int (nI (pn (gsa G) (i + 1) 30))), (3, .int cv), (0, .ref (gad G 42)), (1, .ref (gsa G 900)), (2, .int (nI i))]) rfl (by rw [hL]; decide) ?_
    refine g_iload C dL_begins_54 0 rfl ?_
    refine g_sipush C dL_begins_56 (v := (-20003)) (by decide) ?_
    refine g_icmp_eq C dL_begins_59 (tgt := 121) (by decide) (fun c_59 => absurd c_59 (nI_nneg (by omega) (by decide))) (fun c_59 => ?_)
    refine g_aload_n C dL_begins_62 4 rfl ?_
    refine g_iconst C dL_begins_63 (v := 0) (by decide) ?_
    refine pf_L_wasSetBack C (by first | exact isBo_0 | exact isBo_1 | assumption) tw371 dL_begins_64 ?_
    refine g_aload_n C dL_begins_67 4 rfl ?_
    refine g_aload_n C dL_begins_68 4 rfl ?_
    refine gf_L_o C tw363 dL_begins_69 ?_
    refine g_callViW C dL_begins_72 (c_X10_second _ _ _ _ _ _ _ _ _ ) tw1137 tw1138 tw1139 tw1 tw1140 (rv_X10 C) rfl ⟨by decide +kernel, by decide +kernel, rfl⟩ ⟨rfl, rfl⟩ (by rw [hR]; exact ⟨Nat.le_of_ble_eq_true rfl, Nat.le_of_ble_eq_true rfl⟩) (Nat.le_of_ble_eq_true rfl) (by omega) (fun r_9 X1 M1 K1 h_10 => ?_)
    obtain ⟨rfl, hX1, hM1, hK1⟩ := h_10
    subst X1 M1 K1
    refine g_topi (y := nI v) (by exact I.x1) ?_
    refine g_iload C dL_begins_75 2 rfl ?_
    refine g_iadd C dL_begins_77 ?_
    refine g_topi (y := nI (v + pn (gsa G) (i + 1) 30)) (nI_add _ _) ?_
    refine pf_L_opens C tw369 dL_begins_78 ?_
    refine g_aload_n C dL_begins_81 4 rfl ?_
    refine g_aload_n C dL_begins_82 4 rfl ?_
    refine gf_L_o C tw363 dL_begins_83 ?_
    refine g_callViW C dL_begins_86 (c_X10_second _ _ _ _ _ _ _ _ _ ) tw1137 tw1138 tw1139 tw1 tw1140 (rv_X10 C) rfl ⟨by decide +kernel, by decide +kernel, rfl⟩ ⟨rfl, rfl⟩ (by rw [hR]; exact ⟨Nat.le_of_ble_eq_true rfl, Nat.le_of_ble_eq_true rfl⟩) (Nat.le_of_ble_eq_true rfl) (by omega) (fun r_11 X1 M1 K1 h_12 => ?_)
    obtain ⟨rfl, hX1, hM1, hK1⟩ := h_12
    subst X1 M1 K1
    refine g_topi (y := nI v) (by exact I.x1) ?_
    refine g_iload C dL_begins_89 1 rfl ?_
    refine g_iadd C dL_begins_91 ?_
    refine g_topi (y := nI (v + (pn (gsa G) (i + 1) 30 + pn (gsa G) (i + 2) 40))) (nI_add _ _) ?_
    refine pf_L_shuts C tw370 dL_begins_92 ?_
    refine g_iconst C dL_begins_95 (v := 0) (by decide) ?_
    refine g_istore C dL_begins_96 (L' := [(7, .int 0), (6, .int (nI (v + (10 + pn (gsa G) i 12)))), (5, .int (nI (pn (gsa G) (i + 1) 30 + pn (gsa G) (i + 2) 40))), (4, .int (nI (pn (gsa G) (i + 1) 30))), (3, .int cv), (0, .ref (gad G 42)), (1, .ref (gsa G 900)), (2, .int (nI i))]) rfl (by rw [hL]; decide) ?_
    have lp98 : ∀ (n j : Nat) (hi : j + n = 6), GH G (WX G (bg_X 6 5 cv (nI (pn (gsa G) (i + 1) 30)) (nI (pn (gsa G) (i + 1) 30 + pn (gsa G) (i + 2) 40)) X) (sa (si (si (si M 102 0) 100 (nI (v + pn (gsa G) (i + 1) 30))) 101 (nI (v + (pn (gsa G) (i + 1) 30 + pn (gsa G) (i + 2) 40)))) 43 (wv0 (M 43) j)) (kLs K 0 v [67])) [(0, .ref (gad G 42)), (1, .ref (gsa G 900)), (2, .int (nI i)), (3, .int cv), (4, .int (nI (pn (gsa G) (i + 1) 30))), (5, .int (nI (pn (gsa G) (i + 1) 30 + pn (gsa G) (i + 2) 40))), (6, .int (nI (v + (10 + pn (gsa G) i 12)))), (7, .int (nI j))] (0 + ((kLs K 0 v [67]).2.1 4 - K.2.1 4 + 1)) (0 + ((kLs K 0 v [67]).2.1 6 - K.2.1 6 + 6)) 98 [] := by
      intro n
      induction n with
      | zero =>
        intro j hi
        obtain rfl : j = 6 := by omega
        refine g_iload C dL_begins_98 7 rfl ?_
        refine g_bipush C dL_begins_100 (v := 6) (by decide) ?_
        refine g_icmp_ge C dL_begins_102 (tgt := 121) (by decide) (fun c_102 => ?_) (fun c_102 => absurd (nI_le (a := 6) (b := 6) (Nat.le_refl _) (by omega)) c_102)
        refine g_iload C dL_begins_121 6 rfl ?_
        refine g_sipush C dL_begins_123 (v := (-20003)) (by decide) ?_
        refine g_icmp_eq C dL_begins_126 (tgt := 169) (by decide) (fun c_126 => absurd c_126 (nI_nneg (by omega) (by decide))) (fun c_126 => ?_)
        refine g_iload C dL_begins_129 6 rfl ?_
        refine g_aload_n C dL_begins_131 0 rfl ?_
        refine gf_L_o C tw363 dL_begins_132 ?_
        refine g_callViW C dL_begins_135 (c_X10_second _ _ _ _ _ _ _ _ _ ) tw1137 tw1138 tw1139 tw1 tw1140 (rv_X10 C) rfl ⟨by decide +kernel, by decide +kernel, rfl⟩ ⟨rfl, rfl⟩ (by rw [hR]; exact ⟨Nat.le_of_ble_eq_true rfl, Nat.le_of_ble_eq_true rfl⟩) (Nat.le_of_ble_eq_true rfl) (by omega) (fun r_13 X1 M1 K1 h_14 => ?_)
        obtain ⟨rfl, hX1, hM1, hK1⟩ := h_14
        subst X1 M1 K1
        refine g_topi (y := nI v) (by exact I.x1) ?_
        refine g_iload_n C dL_begins_138 3 rfl ?_
        refine g_isub C dL_begins_139 ?_
        refine g_icmp_ne C dL_begins_140 (tgt := 173) (by decide) (fun c_140 => absurd c_140 (not_not_intro (by rw [ecv]; exact (bg_r hv la).symm))) (fun c_140 => ?_)
        refine g_aload_n C dL_begins_143 0 rfl ?_
        refine gf_L_o C tw363 dL_begins_144 ?_
        refine g_callViW C dL_begins_147 (c_X10_state _ _ _ _ _ _ _ _ _ (by exact (show isCh 99 from ⟨by decide, by decide⟩))) tw1141 tw1142 tw1143 tw1 tw1144 (rv_X10 C) rfl ⟨by decide +kernel, by decide +kernel, rfl⟩ ⟨rfl, rfl⟩ (by rw [hR]; exact ⟨Nat.le_of_ble_eq_true rfl, Nat.le_of_ble_eq_true rfl⟩) (Nat.le_of_ble_eq_true rfl) (by omega) (fun r_15 X1 M1 K1 h_16 => ?_)
        obtain ⟨rfl, hX1, hM1, hK1⟩ := h_16
        subst X1 M1 K1
        refine g_topi (y := 99) rfl ?_
        refine g_bipush C dL_begins_150 (v := 99) (by decide) ?_
        refine g_icmp_ne C dL_begins_152 (tgt := 173) (by decide) (fun c_152 => absurd c_152 (by decide)) (fun c_152 => ?_)
        refine g_aload_n C dL_begins_155 0 rfl ?_
        refine gf_L_o C tw363 dL_begins_156 ?_
        refine g_bipush C dL_begins_159 (v := 26) (by decide) ?_
        refine g_iconst C dL_begins_161 (v := 0) (by decide) ?_
        refine g_iconst C dL_begins_162 (v := 0) (by decide) ?_
        refine g_callSiW C dL_begins_163 (c_ask_26 _ _ _ _ _ _ _ _ _ (by exact (show xk_beg 99 = 0 by decide)) _ _) tw1112 tw1113 tw0 tw1114 rfl ⟨by decide +kernel, by decide +kernel, rfl⟩ ⟨rfl, rfl⟩ (by rw [hR]; exact ⟨Nat.le_of_ble_eq_true rfl, Nat.le_of_ble_eq_true rfl⟩) (Nat.le_of_ble_eq_true rfl) (by omega) (fun r_17 X1 M1 K1 h_18 => ?_)
        obtain ⟨rfl, hX1, hM1, hK1⟩ := h_18
        subst X1 M1 K1
        refine g_topi (y := 0) rfl ?_
        refine g_if_ne C dL_begins_166 (tgt := 173) (by decide) (fun c_166 => absurd c_166 (by decide)) (fun c_166 => ?_)
        refine g_iconst C dL_begins_169 (v := 1) (by decide) ?_
        refine g_goto C dL_begins_170 (tgt := 174) (by decide) ?_
        refine g_zretW C hr (by decide) hQ (by omega) (by omega) dL_begins_174 ?_
        exact ⟨rfl, (by first | exact ⟨I.up he, pf_st hpf⟩ | exact ⟨I.begin he hpf ecv la lb lc, (show ¬ (99 : Int32) = 45 by decide)⟩)⟩
      | succ n ih =>
        intro j hi
        refine g_iload C dL_begins_98 7 rfl ?_
        refine g_bipush C dL_begins_100 (v := 6) (by decide) ?_
        refine g_icmp_ge C dL_begins_102 (tgt := 121) (by decide) (fun c_102 => absurd c_102 (nI_ge (a := j) (b := 6) (by omega) (by omega))) (fun c_102 => ?_)
        refine g_aload_n C dL_begins_105 0 rfl ?_
        refine gf_L_waivedTo C tw364 dL_begins_106 ?_
        refine g_iload C dL_begins_109 7 rfl ?_
        refine g_sipush C dL_begins_111 (v := (-9999)) (by decide) ?_
        refine as_43 C (by omega) dL_begins_114 ?_
        refine g_iinc C dL_begins_115 7 rfl (v := nI (j + 1)) (nI_1 _) (L' := [(7, .int (nI (j + 1))), (0, .ref (gad G 42)), (1, .ref (gsa G 900)), (2, .int (nI i)), (3, .int cv), (4, .int (nI (pn (gsa G) (i + 1) 30))), (5, .int (nI (pn (gsa G) (i + 1) 30 + pn (gsa G) (i + 2) 40))), (6, .int (nI (v + (10 + pn (gsa G) i 12))))]) rfl (by rw [hL]; decide) ?_
        refine g_goto C dL_begins_118 (tgt := 98) (by decide) ?_
        exact g_sub [1, 2, 3, 4, 5, 6, 7, 0] rfl (g_X (by first | with_reducible rfl | (subst ecv; first | with_reducible rfl | (simp only [sa_ap, si_ap, si_sa, sa_sa, sa_3, sa_4, sa_5, sa_6, sa_7, sa_8, wv0, up_us, up_up, c_ok49]; done) | (simp [sa_ap, si_ap, si_sa, sa_sa, sa_3, sa_4, sa_5, sa_6, sa_7, sa_8, wv0, up_us, up_up, c_ok49]; done))) (g_M (by first | with_reducible rfl | (subst ecv; first | with_reducible rfl | (simp only [sa_ap, si_ap, si_sa, sa_sa, sa_3, sa_4, sa_5, sa_6, sa_7, sa_8, wv0, up_us, up_up, c_ok49]; done) | (simp [sa_ap, si_ap, si_sa, sa_sa, sa_3, sa_4, sa_5, sa_6, sa_7, sa_8, wv0, up_us, up_up, c_ok49]; done))) (ih (j + 1) (by omega))))
    exact g_sub [5, 6, 7, 4, 3, 2, 1, 0] rfl (g_X rfl (g_M (sa_id _ 43 rfl).symm (lp98 (6) 0 (by omega))))
  · subst X1 M1 K1
    subst hE9
    have hpf : ¬ xk_pf (X 118 0) = 0 := fun q => c_no49 (by rw [hcode, if_pos q])
    refine g_topi (y := (-20003)) (er_7.trans (by rw [hcode, if_neg hpf]; decide)) ?_
    refine g_istore C dL_begins_52 (L' := [(6, .int (-20003)), (5, .int (nI (pn (gsa G) (i + 1) 30 + pn (gsa G) (i + 2) 40))), (4, .int (nI (pn (gsa G) (i + 1) 30))), (3, .int cv), (0, .ref (gad G 42)), (1, .ref (gsa G 900)), (2, .int (nI i))]) rfl (by rw [hL]; decide) ?_
    refine g_iload C dL_begins_54 0 rfl ?_
    refine g_sipush C dL_begins_56 (v := (-20003)) (by decide) ?_
    refine g_icmp_eq C dL_begins_59 (tgt := 121) (by decide) (fun c_59 => ?_) (fun c_59 => absurd (by decide) c_59)
    refine g_iload C dL_begins_121 0 rfl ?_
    refine g_sipush C dL_begins_123 (v := (-20003)) (by decide) ?_
    refine g_icmp_eq C dL_begins_126 (tgt := 169) (by decide) (fun c_126 => ?_) (fun c_126 => absurd (by decide) c_126)
    refine g_iconst C dL_begins_169 (v := 1) (by decide) ?_
    refine g_goto C dL_begins_170 (tgt := 174) (by decide) ?_
    refine g_zretW C hr (by decide) hQ (by omega) (by omega) dL_begins_174 ?_
    exact ⟨rfl, (by first | exact ⟨I.up he, pf_st hpf⟩ | exact ⟨I.begin he hpf ecv la lb lc, (show ¬ (99 : Int32) = 45 by decide)⟩)⟩

