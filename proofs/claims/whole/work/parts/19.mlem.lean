/-! the reference and its text -/
def gw_m (M : XF) (z5 z8 : Nat) : Int32 := if md_at (M 53) (M 104 0) z5 = -1 then 0 else if md_ad (M 51) (M 55 (md_at (M 53) (M 104 0) z5).toNatClampNeg) z8 = 0 then 1 else if M 54 (md_at (M 53) (M 104 0) z5).toNatClampNeg ≤ M 106 0 then 0 else 1
def gw_c (M : XF) (K : KF) (v z zs z5 z8 : Nat) : Int32 := if md_fn M K zs z 0 = -1 then (if gw_m M z5 z8 = 0 then (if M 104 0 = -1 then (if K.1 0 ≤ (nI (v + 1)).toInt64 then 0 else 111) else 0) else 109) else M 63 (md_fn M K zs z 0).toNatClampNeg
def gw_X (M : XF) (K : KF) (zs z : Nat) : XF := si M 108 (md_fn M K zs z 0)
def gc_h (M : XF) : XF := si (si M 105 (M 105 0 + 1)) 106 (M 106 0 + 1)
def gc_f (M : XF) : XF := if M 109 0 = 0 then si (si M 109 (M 107 0)) 110 (M 108 0) else M
def gc_a (M : XF) : XL := if M 102 0 = 99 then (si M 102 104, [72]) else (M, [])
def gc_b (M : XF) : XL := if M 102 0 = 104 then (si M 102 99, [71]) else (M, [])
def gc_g (M : XF) : XF := si (si M 104 (M 104 0 + 1)) 106 0
def gc_0 (M : XF) (K : KF) (v z zs z5 z8 : Nat) : XF := si (gw_X M K zs z) 107 (gw_c M K v z zs z5 z8)
def gc_1 (M : XF) (K : KF) (v z zs z5 z8 : Nat) : XL :=
  if gw_c M K v z zs z5 z8 = 0 then (gc_g (gc_b (gc_0 M K v z zs z5 z8)).1, (gc_b (gc_0 M K v z zs z5 z8)).2) else gc_a (gc_f (gc_h (gc_0 M K v z zs z5 z8)))
def co_X (M : XF) (c r : Int32) : XF := si (si (si M 102 115) 107 c) 108 r
def gc_t (v : Nat) (J : Nat → Int64) (p : XL) : XL :=
  if (nI v).toInt64 + 1 - (p.1 104 0).toInt64 ≤ J 1 then (if p.1 104 0 = 0 then (si (si (si p.1 102 102) 111 0) 112 0, p.2 ++ [70]) else p) else (co_X p.1 (if p.1 109 0 = 0 then 111 else p.1 109 0) (p.1 110 0), p.2 ++ [83])
def gc_A (v z zs z5 z8 : Nat) (M : XF) (K : KF) : XL := gc_t v K.1 (gc_1 M K v z zs z5 z8)
def gf_0 (M : XF) : XF := si (si M 111 (M 111 0 + 1)) 104 (M 111 0 + 1)
def gf_o (M : XF) : Int32 := if absI (M 62 0) ≤ 100 then 0 else if absI (M 62 1) ≤ 100 then 0 else 1
def gf_u (M : XF) : Int32 := if absI (M 62 0 - M 62 1) ≤ 20 then 0 else M 112 0 + 1
def gf_1 (M : XF) : XF := si (gf_0 M) 112 (gf_u M)
def gf_x (M : XF) (c : Int32) : XL := (si (si (si M 102 120) 107 c) 108 (-1), [88])
def gf_A (M : XF) : XL := if gf_o M = 0 then (if gf_u M = 3 then gf_x (gf_1 M) 114 else if M 111 0 + 1 = 60 then (si (gf_1 M) 102 111, [79]) else (gf_1 M, [])) else gf_x (gf_1 M) 100
def gp_1 (M : XF) : XF := sa M 46 (md_tk (M 43) (M 44) (M 45) (M 47) (M 46) 3)
def gp_2 (z8 : Nat) (M : XF) : XF := if md_ic (M 102 0) = 0 then M else sa (sa M 52 (md_gb z8 (M 104 0) (M 48) (M 49) (M 50) (md_ga (M 52) (M 51) z8).1 (md_ga (M 52) (M 51) z8).2 z8).1) 51 (md_gb z8 (M 104 0) (M 48) (M 49) (M 50) (md_ga (M 52) (M 51) z8).1 (md_ga (M 52) (M 51) z8).2 z8).2
def gp_l (M : XF) (K : KF) (zs : Nat) : Nat → Nat → Int32
  | 0 => M 68
  | i + 1 => upd (gp_l M K zs i) i (if md_hn M K zs i = 0 then 0 else gp_l M K zs i i + 1)
def gp_3 (z zs : Nat) (K : KF) (M : XF) : XF := sa M 68 (gp_l M K zs z)
def gp_4 (v z zs z5 z8 : Nat) (K : KF) (M : XF) : XL := if md_ic (M 102 0) = 0 then (if M 102 0 = 102 then gf_A M else if md_hl (M 102 0) = 0 then (M, []) else (si M 104 (M 104 0 + 1), [])) else gc_A v z zs z5 z8 M K
def gp_A (v z zs z5 z8 : Nat) (M : XF) (K : KF) : XL := (si (gp_4 v z zs z5 z8 K (gp_3 z zs K (gp_2 z8 (gp_1 M)))).1 101 (nI (v + 1)), (gp_4 v z zs z5 z8 K (gp_3 z zs K (gp_2 z8 (gp_1 M)))).2)
def gs_P (z zs z5 z8 v : Nat) (M : XF) (K : KF) : Nat → XF × KF
  | 0 => (M, K)
  | i + 1 => ((gp_A (v + i) z zs z5 z8 (gs_P z zs z5 z8 v M K i).1 (gs_P z zs z5 z8 v M K i).2).1, kLs (gs_P z zs z5 z8 v M K i).2 1 (v + i) (gp_A (v + i) z zs z5 z8 (gs_P z zs z5 z8 v M K i).1 (gs_P z zs z5 z8 v M K i).2).2)
def gr_s (fr s : Nat → Int32) (c : Int32) : Nat → Nat → Int32
  | 0 => s
  | i + 1 => if fr i < c then gr_s fr s c i else upd (gr_s fr s c i) i 45
def gr_n (fr s : Nat → Int32) (c : Int32) : Nat → Int32
  | 0 => 0
  | i + 1 => if fr i < c then gr_n fr s c i else if gr_s fr s c i i = 45 then gr_n fr s c i else gr_n fr s c i + 1
def ms_ag (s : Nat → Int32) : Nat → Nat → Int32
  | 0 => s
  | i + 1 => upd (ms_ag s i) i 45
def xs_begin (st p1 p2 p3 : Int32) : Int32 := if lin p1.toInt64 (-600) (-10) = 0 then 1 else if lin p2.toInt64 0 5000 = 0 then 1 else if lin p3.toInt64 p2.toInt64 5000 = 0 then 1 else xs_go st 2
def xs_rec (f : Nat → Int32) (z5 : Int32) (st c p1 : Int32) : Int32 := if md_no p1 z5 = 0 then (if md_ic st = 0 then 2 else if f p1.toNatClampNeg < c then 0 else 2) else 1
def xs_pass (s p1 : Int32) : Int32 := if lin p1.toInt64 1 600 = 0 then 1 else if s + p1 ≤ 100000 then 0 else 2
def mb_M (z8 : Nat) (p1 : Int32) (M : XF) : XF := sa (sa (si (si (si (si (si (si (si (si (si (si M 100 0) 103 1) 102 99) 104 p1) 105 0) 106 0) 107 0) 108 (-1)) 109 0) 110 (-1)) 69 (md_end (M 69) 12)) 51 (ms_ag (M 51) z8)
def mb_K (M : XF) (K : KF) (p2 p3 : Int32) : KF := (sl (sl K.1 0 ((M 101 0).toInt64 + p2.toInt64)) 1 ((M 101 0).toInt64 + p3.toInt64), K.2)
def mr_M (z8 j : Nat) (M : XF) : XF := sa (si (si (si (si (si (sa (si M 100 0) 51 (gr_s (M 48) (M 51) (M 53 j) z8)) 104 (M 53 j)) 106 0) 102 99) 107 0) 108 (-1)) 69 (md_end (M 69) 12)
def ms_A (M : XF) : XL := if md_ic (M 102 0) = 0 then (si M 100 0, []) else (co_X (si M 100 0) 99 (-1), [83])
def mk_X (M : XF) (z len : Nat) : Int64 := 31 * ck_f (M 68) (ck_f (M 46) (31 * (217 + (M 101 0).toInt64) + (if M 103 0 = 0 then 0 else M 104 0).toInt64) 3) z + (nI len).toInt64
/-- what a second of the reference leaves as it is -/
abbrev uM (k : Nat) : Prop := k ≠ 46 ∧ k ≠ 51 ∧ k ≠ 52 ∧ k ≠ 68 ∧ k ≠ 101 ∧ k ≠ 102 ∧ k ≠ 104 ∧ k ≠ 105 ∧ k ≠ 106 ∧ k ≠ 107 ∧ k ≠ 108 ∧ k ≠ 109 ∧ k ≠ 110 ∧ k ≠ 111 ∧ k ≠ 112
abbrev uG (k : Nat) : Prop := k ≠ 102 ∧ k ≠ 104 ∧ k ≠ 105 ∧ k ≠ 106 ∧ k ≠ 107 ∧ k ≠ 108 ∧ k ≠ 109 ∧ k ≠ 110 ∧ k ≠ 111 ∧ k ≠ 112
theorem gc_0_k (M : XF) (K : KF) (v z zs z5 z8 : Nat) {k : Nat} (h : k ≠ 107 ∧ k ≠ 108) : gc_0 M K v z zs z5 z8 k = M k := (si_ne _ _ h.1).trans (si_ne _ _ h.2)
theorem gc_0_7 (M : XF) (K : KF) (v z zs z5 z8 : Nat) : gc_0 M K v z zs z5 z8 107 0 = gw_c M K v z zs z5 z8 := rfl
theorem gc_0_8 (M : XF) (K : KF) (v z zs z5 z8 : Nat) : gc_0 M K v z zs z5 z8 108 0 = md_fn M K zs z 0 := rfl
theorem gf_0_k (M : XF) {k : Nat} (h : k ≠ 104 ∧ k ≠ 111) : gf_0 M k = M k := (si_ne _ _ h.1).trans (si_ne _ _ h.2)
theorem gf_1_k (M : XF) {k : Nat} (h : k ≠ 104 ∧ k ≠ 111 ∧ k ≠ 112) : gf_1 M k = M k := (si_ne _ _ h.2.2).trans (gf_0_k M ⟨h.1, h.2.1⟩)
theorem md_hn_68 (M : XF) (K : KF) (f : Nat → Int32) (zs j : Nat) : md_hn (sa M 68 f) K zs j = md_hn M K zs j := rfl
theorem nI_ne {i : Nat} (h : i < 2 ^ 31) : ¬ nI i = -1 := fun q => by
  have := congrArg Int32.toInt q
  rw [nI_toInt h] at this
  have e : (-1 : Int32).toInt = -1 := rfl
  omega
theorem gc_1_k (M : XF) (K : KF) (v z zs z5 z8 : Nat) {k : Nat} (h : uG k) : (gc_1 M K v z zs z5 z8).1 k = M k := by
  have h0 := gc_0_k M K v z zs z5 z8 (k := k) (by omega)
  unfold gc_1 gc_a gc_f gc_h gc_b gc_g
  repeat' split
  all_goals simp (discharger := omega) only [si_ne, h0]
theorem gc_t_k (v : Nat) (J : Nat → Int64) (p : XL) {k : Nat} (h : uG k) : (gc_t v J p).1 k = p.1 k := by
  unfold gc_t co_X
  repeat' split
  all_goals first | rfl | simp (discharger := omega) only [si_ne]
theorem gc_A_k (v z zs z5 z8 : Nat) (M : XF) (K : KF) {k : Nat} (h : uG k) : (gc_A v z zs z5 z8 M K).1 k = M k := (gc_t_k _ _ _ h).trans (gc_1_k M K v z zs z5 z8 h)
theorem gf_A_k (M : XF) {k : Nat} (h : uG k) : (gf_A M).1 k = M k := by
  unfold gf_A gf_x gf_1 gf_0
  repeat' split
  all_goals simp (discharger := omega) only [si_ne]
theorem gp_4_k (v z zs z5 z8 : Nat) (K : KF) (M : XF) {k : Nat} (h : uG k) : (gp_4 v z zs z5 z8 K M).1 k = M k := by
  unfold gp_4
  repeat' split
  all_goals first | rfl | exact gf_A_k M h | exact gc_A_k _ _ _ _ _ _ _ h | exact si_ne _ _ (by omega)
theorem gp_2_k (z8 : Nat) (M : XF) {k : Nat} (h : k ≠ 46 ∧ k ≠ 51 ∧ k ≠ 52) : gp_2 z8 (gp_1 M) k = M k := by
  unfold gp_2
  split
  · exact sa_ne _ _ h.1
  · rw [sa_ne _ _ h.2.1, sa_ne _ _ h.2.2]; exact sa_ne _ _ h.1
theorem gp_3_k (z zs z8 : Nat) (K : KF) (M : XF) {k : Nat} (h : k ≠ 46 ∧ k ≠ 51 ∧ k ≠ 52 ∧ k ≠ 68) : gp_3 z zs K (gp_2 z8 (gp_1 M)) k = M k := (sa_ne _ _ h.2.2.2).trans (gp_2_k _ _ ⟨h.1, h.2.1, h.2.2.1⟩)
theorem gp_A_k (v z zs z5 z8 : Nat) (M : XF) (K : KF) {k : Nat} (h : uM k) : (gp_A v z zs z5 z8 M K).1 k = M k := by
  show si _ _ _ k = _
  rw [si_ne _ _ (by omega), gp_4_k _ _ _ _ _ _ _ (by omega), gp_3_k _ _ _ _ _ (by omega)]
theorem gc_t_le (K : KF) (v : Nat) (J : Nat → Int64) (p : XL) : (kLs K 1 v p.2).2.1 1 ≤ (kLs K 1 v (gc_t v J p).2).2.1 1 ∧ (kLs K 1 v p.2).2.1 5 ≤ (kLs K 1 v (gc_t v J p).2).2.1 5 ∧ (kLs K 1 v p.2).2.1 7 ≤ (kLs K 1 v (gc_t v J p).2).2.1 7 := by
  unfold gc_t
  repeat' split
  all_goals first | exact ⟨Nat.le_refl _, Nat.le_refl _, Nat.le_refl _⟩ | (rw [kLs_app]; exact kLs_le1 v [70] _) | (rw [kLs_app]; exact kLs_le1 v [83] _)
/-- what a second asks of the reference's numbers -/
def okM (v z zs z5 z8 : Nat) (M : XF) : Prop := M 101 0 = nI v ∧ M 113 0 = nI z8 ∧ M 114 0 = nI z5 ∧ M 117 0 = nI z ∧ M 116 0 = nI zs ∧ isCh (M 107 0) ∧ isCh (M 109 0) ∧ (∀ j, isCh (M 63 j)) ∧ (∀ j, j < z → okAb (M 63 j) (M 64 j)) ∧ ∀ k : Nat, k < 3 → ¬ sn_cnt (M 57) k 3 = 0
theorem okM.same {v z zs z5 z8 : Nat} {M N : XF} (h : okM v z zs z5 z8 M) (h1 : N 101 = M 101) (h2 : N 113 = M 113) (h3 : N 114 = M 114) (h4 : N 117 = M 117) (h5 : N 116 = M 116) (h6 : isCh (N 107 0)) (h7 : isCh (N 109 0)) (h8 : N 63 = M 63) (h9 : N 64 = M 64) (h10 : N 57 = M 57) : okM v z zs z5 z8 N := by
  obtain ⟨a1, a2, a3, a4, a5, a6, a7, a8, a9, a10⟩ := h
  unfold okM
  rw [h1, h2, h3, h4, h5, h8, h9, h10]
  exact ⟨a1, a2, a3, a4, a5, h6, h7, a8, a9, a10⟩
theorem gw_c_ch (M : XF) (K : KF) (v z zs z5 z8 : Nat) (h : ∀ j, isCh (M 63 j)) : isCh (gw_c M K v z zs z5 z8) := by
  unfold gw_c
  repeat' split
  all_goals first | exact h _ | exact ⟨by decide, by decide⟩
theorem gc_1_ch (M : XF) (K : KF) (v z zs z5 z8 : Nat) (h : ∀ j, isCh (M 63 j)) (h9 : isCh (M 109 0)) : isCh ((gc_1 M K v z zs z5 z8).1 107 0) ∧ isCh ((gc_1 M K v z zs z5 z8).1 109 0) := by
  have hc := gw_c_ch M K v z zs z5 z8 h
  have e7 : gc_0 M K v z zs z5 z8 107 0 = gw_c M K v z zs z5 z8 := rfl
  have e9 : gc_0 M K v z zs z5 z8 109 = M 109 := gc_0_k M K v z zs z5 z8 (by decide)
  unfold gc_1 gc_a gc_f gc_h gc_b gc_g
  repeat' split
  all_goals simp (discharger := decide) only [si_ne, si_eq, e7, e9]; first | exact ⟨hc, h9⟩ | exact ⟨hc, hc⟩
theorem gc_A_ch (v z zs z5 z8 : Nat) (M : XF) (K : KF) (h : ∀ j, isCh (M 63 j)) (h9 : isCh (M 109 0)) : isCh ((gc_A v z zs z5 z8 M K).1 107 0) ∧ isCh ((gc_A v z zs z5 z8 M K).1 109 0) := by
  have hc := gc_1_ch M K v z zs z5 z8 h h9
  unfold gc_A gc_t co_X
  repeat' split
  all_goals (try simp (discharger := decide) only [si_ne, si_eq])
  all_goals first | exact hc | exact ⟨hc.2, hc.2⟩ | exact ⟨⟨by decide, by decide⟩, hc.2⟩
theorem gf_A_ch (M : XF) (h7 : isCh (M 107 0)) (h9 : isCh (M 109 0)) : isCh ((gf_A M).1 107 0) ∧ isCh ((gf_A M).1 109 0) := by
  unfold gf_A gf_x gf_1 gf_0
  repeat' split
  all_goals simp (discharger := decide) only [si_ne, si_eq]
  all_goals first | exact ⟨h7, h9⟩ | exact ⟨⟨by decide, by decide⟩, h9⟩
theorem gp_4_ch (v z zs z5 z8 : Nat) (K : KF) (M : XF) (h : ∀ j, isCh (M 63 j)) (h7 : isCh (M 107 0)) (h9 : isCh (M 109 0)) : isCh ((gp_4 v z zs z5 z8 K M).1 107 0) ∧ isCh ((gp_4 v z zs z5 z8 K M).1 109 0) := by
  unfold gp_4
  split
  · split
    · exact gf_A_ch M h7 h9
    · split
      · exact ⟨h7, h9⟩
      · exact ⟨h7, h9⟩
  · exact gc_A_ch v z zs z5 z8 M K h h9
theorem okM.s2 {v z zs z5 z8 : Nat} {M : XF} (h : okM v z zs z5 z8 M) : okM v z zs z5 z8 (gp_2 z8 (gp_1 M)) := h.same (gp_2_k _ _ (by decide)) (gp_2_k _ _ (by decide)) (gp_2_k _ _ (by decide)) (gp_2_k _ _ (by decide)) (gp_2_k _ _ (by decide)) (by rw [gp_2_k _ _ (by decide)]; exact h.2.2.2.2.2.1) (by rw [gp_2_k _ _ (by decide)]; exact h.2.2.2.2.2.2.1) (gp_2_k _ _ (by decide)) (gp_2_k _ _ (by decide)) (gp_2_k _ _ (by decide))
theorem okM.s3 {v z zs z5 z8 : Nat} {M : XF} (K : KF) (h : okM v z zs z5 z8 M) : okM v z zs z5 z8 (gp_3 z zs K (gp_2 z8 (gp_1 M))) := h.same (gp_3_k _ _ _ _ _ (by decide)) (gp_3_k _ _ _ _ _ (by decide)) (gp_3_k _ _ _ _ _ (by decide)) (gp_3_k _ _ _ _ _ (by decide)) (gp_3_k _ _ _ _ _ (by decide)) (by rw [gp_3_k _ _ _ _ _ (by decide)]; exact h.2.2.2.2.2.1) (by rw [gp_3_k _ _ _ _ _ (by decide)]; exact h.2.2.2.2.2.2.1) (gp_3_k _ _ _ _ _ (by decide)) (gp_3_k _ _ _ _ _ (by decide)) (gp_3_k _ _ _ _ _ (by decide))
theorem okM.next {v z zs z5 z8 : Nat} {M : XF} (K : KF) (h : okM v z zs z5 z8 M) : okM (v + 1) z zs z5 z8 (gp_A v z zs z5 z8 M K).1 := by
  have h3 := h.s3 K
  have hc := gp_4_ch v z zs z5 z8 K _ h3.2.2.2.2.2.2.2.1 h3.2.2.2.2.2.1 h3.2.2.2.2.2.2.1
  obtain ⟨a1, a2, a3, a4, a5, a6, a7, a8, a9, a10⟩ := h
  refine ⟨rfl, ?_, ?_, ?_, ?_, hc.1, hc.2, ?_, ?_, ?_⟩
  · rw [gp_A_k _ _ _ _ _ _ _ (by decide)]; exact a2
  · rw [gp_A_k _ _ _ _ _ _ _ (by decide)]; exact a3
  · rw [gp_A_k _ _ _ _ _ _ _ (by decide)]; exact a4
  · rw [gp_A_k _ _ _ _ _ _ _ (by decide)]; exact a5
  · rw [gp_A_k _ _ _ _ _ _ _ (by decide)]; exact a8
  · rw [gp_A_k _ _ _ _ _ _ _ (by decide), gp_A_k _ _ _ _ _ _ _ (by decide)]; exact a9
  · rw [gp_A_k _ _ _ _ _ _ _ (by decide)]; exact a10
theorem okM.gs {v z zs z5 z8 : Nat} {M : XF} (K : KF) (h : okM v z zs z5 z8 M) : ∀ i, okM (v + i) z zs z5 z8 (gs_P z zs z5 z8 v M K i).1
  | 0 => h
  | i + 1 => (okM.gs K h i).next _
theorem kLg_k2 (K : KF) (v c : Nat) : (kLg K 1 v c).2.1 2 = K.2.1 2 ∧ (kLg K 1 v c).1 = K.1 := by
  simp [kLg, kApp]
theorem kLs_k2 (v : Nat) : ∀ (cs : List Nat) (K : KF), (kLs K 1 v cs).2.1 2 = K.2.1 2 ∧ (kLs K 1 v cs).1 = K.1
  | [], _ => ⟨rfl, rfl⟩
  | c :: cs, K => ⟨(kLs_k2 v cs (kLg K 1 v c)).1.trans (kLg_k2 K v c).1, (kLs_k2 v cs (kLg K 1 v c)).2.trans (kLg_k2 K v c).2⟩
theorem gs_k2 (z zs z5 z8 v : Nat) (M : XF) (K : KF) : ∀ i, (gs_P z zs z5 z8 v M K i).2.2.1 2 = K.2.1 2 ∧ (gs_P z zs z5 z8 v M K i).2.1 = K.1
  | 0 => ⟨rfl, rfl⟩
  | i + 1 => ⟨(kLs_k2 _ _ _).1.trans (gs_k2 z zs z5 z8 v M K i).1, (kLs_k2 _ _ _).2.trans (gs_k2 z zs z5 z8 v M K i).2⟩
theorem gs_le (z zs z5 z8 v : Nat) (M : XF) (K : KF) (i : Nat) : ∀ n, (gs_P z zs z5 z8 v M K i).2.2.1 1 ≤ (gs_P z zs z5 z8 v M K (i + n)).2.2.1 1 ∧ (gs_P z zs z5 z8 v M K i).2.2.1 5 ≤ (gs_P z zs z5 z8 v M K (i + n)).2.2.1 5 ∧ (gs_P z zs z5 z8 v M K i).2.2.1 7 ≤ (gs_P z zs z5 z8 v M K (i + n)).2.2.1 7
  | 0 => ⟨Nat.le_refl _, Nat.le_refl _, Nat.le_refl _⟩
  | n + 1 => by
    have h1 := gs_le z zs z5 z8 v M K i n
    have h2 := kLs_le1 (v + (i + n)) (gp_A (v + (i + n)) z zs z5 z8 (gs_P z zs z5 z8 v M K (i + n)).1 (gs_P z zs z5 z8 v M K (i + n)).2).2 (gs_P z zs z5 z8 v M K (i + n)).2
    have e : (gs_P z zs z5 z8 v M K (i + (n + 1))).2 = kLs (gs_P z zs z5 z8 v M K (i + n)).2 1 (v + (i + n)) (gp_A (v + (i + n)) z zs z5 z8 (gs_P z zs z5 z8 v M K (i + n)).1 (gs_P z zs z5 z8 v M K (i + n)).2).2 := rfl
    rw [e]
    omega
theorem md_fn_cases (M : XF) (K : KF) (zs : Nat) : ∀ n i, md_fn M K zs n i = -1 ∨ ∃ j, i ≤ j ∧ j < i + n ∧ md_fn M K zs n i = nI j
  | 0, i => Or.inl rfl
  | n + 1, i => by
    unfold md_fn
    split
    · exact Or.inr ⟨i, Nat.le_refl i, by omega, rfl⟩
    · rcases md_fn_cases M K zs n (i + 1) with q | ⟨j, h1, h2, h3⟩
      · exact Or.inl q
      · exact Or.inr ⟨j, by omega, by omega, h3⟩
theorem md_at_cases (f : Nat → Int32) (v : Int32) : ∀ n, md_at f v n = -1 ∨ ∃ j, j < n ∧ md_at f v n = nI j
  | 0 => Or.inl rfl
  | n + 1 => by
    unfold md_at
    split
    · exact Or.inr ⟨n, by omega, rfl⟩
    · rcases md_at_cases f v n with q | ⟨j, h1, h2⟩
      · exact Or.inl q
      · exact Or.inr ⟨j, by omega, h2⟩
theorem lin_ix1 {p : Int32} (h : ¬ lin p.toInt64 1 600 = 0) : ∃ n : Nat, 1 ≤ n ∧ n ≤ 600 ∧ p = nI n := by
  unfold lin at h
  by_cases h1 : p.toInt64 < 1
  · simp [h1] at h
  · by_cases h2 : 600 < p.toInt64
    · simp [h1, h2] at h
    · rw [Int64.lt_iff_toInt_lt, Int32.toInt_toInt64] at h1 h2
      have z1 : (1 : Int64).toInt = 1 := rfl
      have z6 : (600 : Int64).toInt = 600 := rfl
      have h0 : ¬ p < 0 := by
        rw [Int32.lt_iff_toInt_lt]
        have z0 : (0 : Int32).toInt = 0 := rfl
        omega
      obtain ⟨j, hj, ej⟩ := nI_of h0
      rw [ej, nI_toInt hj] at h1 h2
      exact ⟨j, by omega, by omega, ej⟩
theorem sa_selfE (Y : XF) (k : Nat) {f : Nat → Int32} (h : Y k = f) : sa Y k f = Y := by rw [← h, sa_self]
theorem md_ic_bo (s : Int32) : isBo (md_ic s) := by
  unfold md_ic
  repeat' split
  all_goals first | exact isBo_0 | exact isBo_1
theorem md_no_ixL {p s : Int32} {z : Nat} (hz : s = nI z) (hzl : z < 2 ^ 31) (h : md_no p s = 0) : ∃ j : Nat, j < z ∧ p = nI j := by
  refine lin_ix (b := (s - 1).toInt64) (n := z) ?_ hzl (fun q => by rw [md_no, if_pos q] at h; exact absurd h (by decide))
  rw [Int32.toInt_toInt64, hz]
  by_cases h0 : z = 0
  · subst h0; decide
  · obtain ⟨k, rfl⟩ : ∃ k, z = k + 1 := ⟨z - 1, by omega⟩
    rw [nI_pred, nI_toInt (by omega)]
    omega
theorem okM.l68 {v z zs z5 z8 : Nat} {M : XF} (f : Nat → Int32) (h : okM v z zs z5 z8 M) : okM v z zs z5 z8 (sa M 68 f) := h
