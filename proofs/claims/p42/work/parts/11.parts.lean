/-! steps, marks, sensors, lightnings, boats, rules, the count, the flight, as numbers -/
def inr (lo hi v : Int32) : Int32 := if v < lo then 0 else if hi < v then 0 else 1
theorem inr_bo (lo hi v : Int32) : isBo (inr lo hi v) := by
  unfold inr
  split
  · exact isBo_0
  · split
    · exact isBo_0
    · exact isBo_1
def bel (v hi : Int32) : Int32 := if v < 0 then 0 else if hi ≤ v then 0 else 1
theorem bel_bo (v hi : Int32) : isBo (bel v hi) := by
  unfold bel
  split
  · exact isBo_0
  · split
    · exact isBo_0
    · exact isBo_1
def ush (x y : Int32) : Int32 := (x.toUInt32 >>> (y.toUInt32 &&& Int32.toUInt32 31)).toInt32
def bc1 (x : Int32) : Int32 := x - (ush x 1 &&& 1431655765)
def bc2 (x : Int32) : Int32 := (x &&& 858993459) + (ush x 2 &&& 858993459)
def bc3 (x : Int32) : Int32 := (x + ush x 4) &&& 252645135
def bc4 (x : Int32) : Int32 := x + ush x 8
def bc5 (x : Int32) : Int32 := x + ush x 16
def bcnt (x : Int32) : Int32 := bc5 (bc4 (bc3 (bc2 (bc1 x)))) &&& 63
def sp_on (s : Nat → Int32) : Nat → Int32
  | 0 => 0
  | i + 1 => sp_on s i ||| (if s i = 101 then 1 <<< (nI i &&& 31) else 0)
def sp_again (s : Nat → Int32) : Nat → Nat → Int32
  | 0 => s
  | i + 1 => upd (sp_again s i) i 45
def sp_undo (fr s : Nat → Int32) (c : Int32) : Nat → Nat → Int32
  | 0 => s
  | i + 1 => if fr i < c then sp_undo fr s c i else if sp_undo fr s c i i = 45 then sp_undo fr s c i else upd (sp_undo fr s c i) i 45
def sp_undoN (fr s : Nat → Int32) (c : Int32) : Nat → Int32
  | 0 => 0
  | i + 1 => if fr i < c then sp_undoN fr s c i else if sp_undo fr s c i i = 45 then sp_undoN fr s c i else sp_undoN fr s c i + 1
def sp_wa (l s : Nat → Int32) : Nat → (Nat → Int32) × (Nat → Int32)
  | 0 => (l, s)
  | i + 1 => if (sp_wa l s i).2 i = 114 then (upd (sp_wa l s i).1 i ((sp_wa l s i).1 i - 1), upd (sp_wa l s i).2 i (if (sp_wa l s i).1 i - 1 ≤ 0 then 101 else 114)) else sp_wa l s i
def sp_wb (dn c : Int32) (fr secs beh l s : Nat → Int32) : Nat → (Nat → Int32) × (Nat → Int32)
  | 0 => (l, s)
  | i + 1 => if (sp_wb dn c fr secs beh l s i).2 i = 45 then (if c < fr i then sp_wb dn c fr secs beh l s i else if (beh i &&& nt dn) = 0 then (upd (sp_wb dn c fr secs beh l s i).1 i (secs i), upd (sp_wb dn c fr secs beh l s i).2 i 114) else sp_wb dn c fr secs beh l s i) else sp_wb dn c fr secs beh l s i
def adn (x : Int32) : Int32 := if x = 0 then 1 else 0
theorem adn_bo (x : Int32) : isBo (adn x) := by
  unfold adn
  split
  · exact isBo_1
  · exact isBo_0
def mk_find (f : Nat → Int32) (v : Int32) : Nat → Nat → Int32
  | 0, _ => -1
  | n + 1, i => if f i = v then nI i else mk_find f v n (i + 1)
theorem mk_find_cases (f : Nat → Int32) (v : Int32) : ∀ n i, mk_find f v n i = -1 ∨ ∃ j, i ≤ j ∧ j < i + n ∧ mk_find f v n i = nI j ∧ f j = v
  | 0, i => Or.inl rfl
  | n + 1, i => by
    unfold mk_find
    by_cases h : f i = v
    · rw [if_pos h]
      exact Or.inr ⟨i, Nat.le_refl i, by omega, rfl, h⟩
    · rw [if_neg h]
      rcases mk_find_cases f v n (i + 1) with q | ⟨j, h1, h2, h3, h4⟩
      · exact Or.inl q
      · exact Or.inr ⟨j, by omega, by omega, h3, h4⟩
/-- a mark put into its place: the rows, shifted, and the place -/
def mk_sh (v : Int32) : Nat → (Nat → Int32) → (Nat → Int32) → (Nat → Int32) → ((Nat → Int32) × (Nat → Int32) × (Nat → Int32)) × Nat
  | 0, c, s, t => ((c, s, t), 0)
  | k + 1, c, s, t => if c k ≤ v then ((c, s, t), k + 1) else mk_sh v k (upd c (k + 1) (c k)) (upd s (k + 1) (s k)) (upd t (k + 1) (t k))
theorem mk_sh_le (v : Int32) : ∀ k c s t, (mk_sh v k c s t).2 ≤ k
  | 0, _, _, _ => Nat.le_refl 0
  | k + 1, c, s, t => by
    unfold mk_sh
    split
    · exact Nat.le_refl _
    · exact Nat.le_succ_of_le (mk_sh_le v k _ _ _)
def mk_keep (c s t : Nat → Int32) (z : Nat) (v h dn : Int32) : Int32 :=
  if mk_find c v z 0 = -1 then 0 else if h < s (mk_find c v z 0).toNatClampNeg then 1 else if adn (t (mk_find c v z 0).toNatClampNeg &&& nt dn) = 0 then 1 else 0
def sn_cnt (o : Nat → Int32) (k : Nat) : Nat → Int32
  | 0 => 0
  | i + 1 => sn_cnt o k i + (if o (3 * k + i) = 0 then 1 else 0)
def sn_sum (o t : Nat → Int32) (k : Nat) : Nat → Int32
  | 0 => 0
  | i + 1 => if o (3 * k + i) = 0 then sn_sum o t k i + t (3 * k + i) else sn_sum o t k i
def sn_lo (o t : Nat → Int32) (k : Nat) (b : Int32) : Nat → Int32
  | 0 => b
  | i + 1 => if o (3 * k + i) = 0 then tk_min (sn_lo o t k b i) (t (3 * k + i)) else sn_lo o t k b i
def sn_hi (o t : Nat → Int32) (k : Nat) (b : Int32) : Nat → Int32
  | 0 => b
  | i + 1 => if o (3 * k + i) = 0 then tk_max (sn_hi o t k b i) (t (3 * k + i)) else sn_hi o t k b i
def sn_tell (o t : Nat → Int32) (k : Nat) : Int32 :=
  if sn_cnt o k 3 = 3 then sn_sum o t k 3 - sn_lo o t k 9999 3 - sn_hi o t k (-9999) 3 else if sn_cnt o k 3 = 2 then sn_sum o t k 3 / 2 else sn_sum o t k 3
def bt_risk (p d : Int32) : Int32 := p * tk_max 0 (100 - 10 * d)
def bt_sum (f : Nat → Int32) : Nat → Int32
  | 0 => 0
  | i + 1 => bt_sum f i + f i
def rl_met (h s lo hi v : Int32) : Int32 := if h < s then 0 else if inr lo hi v = 0 then 0 else 1
theorem rl_met_bo (h s lo hi v : Int32) : isBo (rl_met h s lo hi v) := by
  unfold rl_met
  split
  · exact isBo_0
  · split
    · exact isBo_0
    · exact isBo_1
def rl_wv (b u c : Int32) : Int32 := if b = -1 then 0 else if u < c then 0 else 1
theorem rl_wv_bo (b u c : Int32) : isBo (rl_wv b u c) := by
  unfold rl_wv
  split
  · exact isBo_0
  · split
    · exact isBo_0
    · exact isBo_1
def rl_may (w c : Int32) : Int32 := if ((w >>> (c &&& 31)) &&& 1) = 1 then 1 else 0
def rl_first (h s lo hi v b u : Nat → Int32) (c : Int32) : Nat → Nat → Int32
  | 0, _ => -1
  | n + 1, i => if rl_met (h i) (s i) (lo i) (hi i) (v i) = 0 then (if rl_wv (b i) (u i) c = 0 then nI i else rl_first h s lo hi v b u c n (i + 1)) else rl_first h s lo hi v b u c n (i + 1)
def rl_good (h s lo hi v b u w : Nat → Int32) (c : Int32) : Nat → Nat → Int32
  | 0, _ => 1
  | n + 1, i => if rl_met (h i) (s i) (lo i) (hi i) (v i) = 0 then (if rl_wv (b i) (u i) c = 0 then 0 else if rl_may (w i) (b i) = 0 then 0 else rl_good h s lo hi v b u w c n (i + 1)) else rl_good h s lo hi v b u w c n (i + 1)
theorem rl_good_bo (h s lo hi v b u w : Nat → Int32) (c : Int32) : ∀ n i, isBo (rl_good h s lo hi v b u w c n i)
  | 0, _ => isBo_1
  | n + 1, i => by
    have ih := rl_good_bo h s lo hi v b u w c n (i + 1)
    unfold rl_good
    split
    · split
      · exact isBo_0
      · split
        · exact isBo_0
        · exact ih
    · exact ih
def rl_end (b : Nat → Int32) : Nat → Nat → Int32
  | 0 => b
  | i + 1 => upd (rl_end b i) i (-1)
def cd_stay (X : XF) (p1 p2 : Int32) : XF := if X 113 0 = 45 then si (si (si (si (si (si X 111 p1) 112 p2) 113 p1) 114 p2) 109 (X 109 0 + 1)) 110 (X 110 0 + 1) else si (si (si (si X 111 p1) 112 p2) 109 (X 109 0 + 1)) 110 (X 110 0 + 1)
theorem sn_b (k : Nat) : (3 : Int32) * nI k + 3 = nI (3 * k + 3) := (congrArg (· + 3) (show (3 : Int32) * nI k = nI (3 * k) from pk_mul 3 k)).trans (nI_add (3 * k) 3)
theorem sn_a (k : Nat) : (3 : Int32) * nI k = nI (3 * k + 0) := pk_mul 3 k
theorem sn_d {j : Nat} (h : j < 9) : nI j / 3 = nI (j / 3) := pk_div (a := j) (d := 3) (by omega) (by omega) (by omega)
theorem lt_rem {s : Nat} (h : s < 2 ^ 31) : nI s - nI s / 600 * 600 = nI (s % 600) := pk_rem (d := 600) h (by decide) (by decide)

set_option maxHeartbeats 400000 in
set_option maxRecDepth 100000 in
/-- isWithin.isWithin -/
theorem c_X10_isWithin (l : Launch) (D : va_G) (cy : Nat → ClassId) (A : Nat → Prop) (ad sad : Nat → Nat) (X M : XF) (K : KF) (p0 p1 p2 : Int32) : Met l yX10_isWithin (wsA yX10_isWithin cX10_isWithin 3 (some .boolean)) ({ frames := 0, cells := 0, slots := 0, locals := 0 }) (PcW D cy A ad sad X M K [.int p0, .int p1, .int p2]) (QiW D cy A ad (fun r X1 M1 K1 => r = inr p1 p2 p0 ∧ X1 = X ∧ M1 = M ∧ K1 = K)) 0 0 A := by
  refine met_ofW [(0, .int p0), (1, .int p1), (2, .int p2)] (by decide +kernel) (Nat.le_of_ble_eq_true rfl) rfl ?_
  intro G C hl hR hL hD hcy hA had hsa hr hQ
  subst hD hcy hA had hsa hl
  refine g_iload_n C dX10_isWithin_0 0 rfl ?_
  refine g_iload_n C dX10_isWithin_1 1 rfl ?_
  refine g_icmp_lt C dX10_isWithin_2 (tgt := 14) (by decide) (fun c_2 => ?_) (fun c_2 => ?_)
  · try simp only [sa_ap, si_ap, reduceIte, Nat.reduceEqDiff, up_us, lg_cmp_lt, lg_cmp_gt, lg_cmp_le, lg_cmp_ge] at c_2
    refine g_iconst C dX10_isWithin_14 (v := 0) (by decide) ?_
    refine g_zretW C hr (by decide) hQ (Nat.le_refl _) (Nat.le_refl _) dX10_isWithin_15 ?_
    exact ⟨(by first | with_reducible rfl | (first | with_reducible rfl | (simp only [sa_ap, si_ap, si_sa, sa_sa, sa_3, sa_4, sa_5, sa_6, sa_7, sa_8, inr, c_2]; done) | (simp [sa_ap, si_ap, si_sa, sa_sa, sa_3, sa_4, sa_5, sa_6, sa_7, sa_8, inr, c_2]; done) | rfl)), (by first | with_reducible rfl | (first | with_reducible rfl | (simp only [sa_ap, si_ap, si_sa, sa_sa, sa_3, sa_4, sa_5, sa_6, sa_7, sa_8, inr, c_2]; done) | (simp [sa_ap, si_ap, si_sa, sa_sa, sa_3, sa_4, sa_5, sa_6, sa_7, sa_8, inr, c_2]; done) | rfl)), rfl, rfl⟩
  · try simp only [sa_ap, si_ap, reduceIte, Nat.reduceEqDiff, up_us, lg_cmp_lt, lg_cmp_gt, lg_cmp_le, lg_cmp_ge] at c_2
    refine g_iload_n C dX10_isWithin_5 0 rfl ?_
    refine g_iload_n C dX10_isWithin_6 2 rfl ?_
    refine g_icmp_gt C dX10_isWithin_7 (tgt := 14) (by decide) (fun c_7 => ?_) (fun c_7 => ?_)
    · try simp only [sa_ap, si_ap, reduceIte, Nat.reduceEqDiff, up_us, lg_cmp_lt, lg_cmp_gt, lg_cmp_le, lg_cmp_ge] at c_7
      refine g_iconst C dX10_isWithin_14 (v := 0) (by decide) ?_
      refine g_zretW C hr (by decide) hQ (Nat.le_refl _) (Nat.le_refl _) dX10_isWithin_15 ?_
      exact ⟨(by first | with_reducible rfl | (first | with_reducible rfl | (simp only [sa_ap, si_ap, si_sa, sa_sa, sa_3, sa_4, sa_5, sa_6, sa_7, sa_8, inr, c_2, c_7]; done) | (simp [sa_ap, si_ap, si_sa, sa_sa, sa_3, sa_4, sa_5, sa_6, sa_7, sa_8, inr, c_2, c_7]; done) | rfl)), (by first | with_reducible rfl | (first | with_reducible rfl | (simp only [sa_ap, si_ap, si_sa, sa_sa, sa_3, sa_4, sa_5, sa_6, sa_7, sa_8, inr, c_2, c_7]; done) | (simp [sa_ap, si_ap, si_sa, sa_sa, sa_3, sa_4, sa_5, sa_6, sa_7, sa_8, inr, c_2, c_7]; done) | rfl)), rfl, rfl⟩
    · try simp only [sa_ap, si_ap, reduceIte, Nat.reduceEqDiff, up_us, lg_cmp_lt, lg_cmp_gt, lg_cmp_le, lg_cmp_ge] at c_7
      refine g_iconst C dX10_isWithin_10 (v := 1) (by decide) ?_
      refine g_goto C dX10_isWithin_11 (tgt := 15) (by decide) ?_
      refine g_zretW C hr (by decide) hQ (Nat.le_refl _) (Nat.le_refl _) dX10_isWithin_15 ?_
      exact ⟨(by first | with_reducible rfl | (first | with_reducible rfl | (simp only [sa_ap, si_ap, si_sa, sa_sa, sa_3, sa_4, sa_5, sa_6, sa_7, sa_8, inr, c_2, c_7]; done) | (simp [sa_ap, si_ap, si_sa, sa_sa, sa_3, sa_4, sa_5, sa_6, sa_7, sa_8, inr, c_2, c_7]; done) | rfl)), (by first | with_reducible rfl | (first | with_reducible rfl | (simp only [sa_ap, si_ap, si_sa, sa_sa, sa_3, sa_4, sa_5, sa_6, sa_7, sa_8, inr, c_2, c_7]; done) | (simp [sa_ap, si_ap, si_sa, sa_sa, sa_3, sa_4, sa_5, sa_6, sa_7, sa_8, inr, c_2, c_7]; done) | rfl)), rfl, rfl⟩

set_option maxHeartbeats 400000 in
set_option maxRecDepth 100000 in
/-- isBelow.isBelow -/
theorem c_X10_isBelow (l : Launch) (D : va_G) (cy : Nat → ClassId) (A : Nat → Prop) (ad sad : Nat → Nat) (X M : XF) (K : KF) (p0 p1 : Int32) : Met l yX10_isBelow (wsA yX10_isBelow cX10_isBelow 2 (some .boolean)) ({ frames := 0, cells := 0, slots := 0, locals := 0 }) (PcW D cy A ad sad X M K [.int p0, .int p1]) (QiW D cy A ad (fun r X1 M1 K1 => r = bel p0 p1 ∧ X1 = X ∧ M1 = M ∧ K1 = K)) 0 0 A := by
  refine met_ofW [(0, .int p0), (1, .int p1)] (by decide +kernel) (Nat.le_of_ble_eq_true rfl) rfl ?_
  intro G C hl hR hL hD hcy hA had hsa hr hQ
  subst hD hcy hA had hsa hl
  refine g_iload_n C dX10_isBelow_0 0 rfl ?_
  refine g_if_lt C dX10_isBelow_1 (tgt := 13) (by decide) (fun c_1 => ?_) (fun c_1 => ?_)
  · try simp only [sa_ap, si_ap, reduceIte, Nat.reduceEqDiff, up_us, lg_cmp_lt, lg_cmp_gt, lg_cmp_le, lg_cmp_ge] at c_1
    refine g_iconst C dX10_isBelow_13 (v := 0) (by decide) ?_
    refine g_zretW C hr (by decide) hQ (Nat.le_refl _) (Nat.le_refl _) dX10_isBelow_14 ?_
    exact ⟨(by first | with_reducible rfl | (first | with_reducible rfl | (simp only [sa_ap, si_ap, si_sa, sa_sa, sa_3, sa_4, sa_5, sa_6, sa_7, sa_8, bel, c_1]; done) | (simp [sa_ap, si_ap, si_sa, sa_sa, sa_3, sa_4, sa_5, sa_6, sa_7, sa_8, bel, c_1]; done) | rfl)), (by first | with_reducible rfl | (first | with_reducible rfl | (simp only [sa_ap, si_ap, si_sa, sa_sa, sa_3, sa_4, sa_5, sa_6, sa_7, sa_8, bel, c_1]; done) | (simp [sa_ap, si_ap, si_sa, sa_sa, sa_3, sa_4, sa_5, sa_6, sa_7, sa_8, bel, c_1]; done) | rfl)), rfl, rfl⟩
  · try simp only [sa_ap, si_ap, reduceIte, Nat.reduceEqDiff, up_us, lg_cmp_lt, lg_cmp_gt, lg_cmp_le, lg_cmp_ge] at c_1
    refine g_iload_n C dX10_isBelow_4 0 rfl ?_
    refine g_iload_n C dX10_isBelow_5 1 rfl ?_
    refine g_icmp_ge C dX10_isBelow_6 (tgt := 13) (by decide) (fun c_6 => ?_) (fun c_6 => ?_)
    · try simp only [sa_ap, si_ap, reduceIte, Nat.reduceEqDiff, up_us, lg_cmp_lt, lg_cmp_gt, lg_cmp_le, lg_cmp_ge] at c_6
      refine g_iconst C dX10_isBelow_13 (v := 0) (by decide) ?_
      refine g_zretW C hr (by decide) hQ (Nat.le_refl _) (Nat.le_refl _) dX10_isBelow_14 ?_
      exact ⟨(by first | with_reducible rfl | (first | with_reducible rfl | (simp only [sa_ap, si_ap, si_sa, sa_sa, sa_3, sa_4, sa_5, sa_6, sa_7, sa_8, bel, c_1, c_6]; done) | (simp [sa_ap, si_ap, si_sa, sa_sa, sa_3, sa_4, sa_5, sa_6, sa_7, sa_8, bel, c_1, c_6]; done) | rfl)), (by first | with_reducible rfl | (first | with_reducible rfl | (simp only [sa_ap, si_ap, si_sa, sa_sa, sa_3, sa_4, sa_5, sa_6, sa_7, sa_8, bel, c_1, c_6]; done) | (simp [sa_ap, si_ap, si_sa, sa_sa, sa_3, sa_4, sa_5, sa_6, sa_7, sa_8, bel, c_1, c_6]; done) | rfl)), rfl, rfl⟩
    · try simp only [sa_ap, si_ap, reduceIte, Nat.reduceEqDiff, up_us, lg_cmp_lt, lg_cmp_gt, lg_cmp_le, lg_cmp_ge] at c_6
      refine g_iconst C dX10_isBelow_9 (v := 1) (by decide) ?_
      refine g_goto C dX10_isBelow_10 (tgt := 14) (by decide) ?_
      refine g_zretW C hr (by decide) hQ (Nat.le_refl _) (Nat.le_refl _) dX10_isBelow_14 ?_
      exact ⟨(by first | with_reducible rfl | (first | with_reducible rfl | (simp only [sa_ap, si_ap, si_sa, sa_sa, sa_3, sa_4, sa_5, sa_6, sa_7, sa_8, bel, c_1, c_6]; done) | (simp [sa_ap, si_ap, si_sa, sa_sa, sa_3, sa_4, sa_5, sa_6, sa_7, sa_8, bel, c_1, c_6]; done) | rfl)), (by first | with_reducible rfl | (first | with_reducible rfl | (simp only [sa_ap, si_ap, si_sa, sa_sa, sa_3, sa_4, sa_5, sa_6, sa_7, sa_8, bel, c_1, c_6]; done) | (simp [sa_ap, si_ap, si_sa, sa_sa, sa_3, sa_4, sa_5, sa_6, sa_7, sa_8, bel, c_1, c_6]; done) | rfl)), rfl, rfl⟩

set_option maxHeartbeats 400000 in
set_option maxRecDepth 100000 in
/-- bitCount.bitCount -/
theorem c_J6_bitCount_0f7a4 (l : Launch) (D : va_G) (cy : Nat → ClassId) (A : Nat → Prop) (ad sad : Nat → Nat) (X M : XF) (K : KF) (p0 : Int32) : Met l yJ6_bitCount_0f7a4 (wsA yJ6_bitCount_0f7a4 cJ6_bitCount_0f7a4 1 (some .int)) ({ frames := 0, cells := 0, slots := 0, locals := 0 }) (PcW D cy A ad sad X M K [.int p0]) (QiW D cy A ad (fun r X1 M1 K1 => r = bcnt p0 ∧ X1 = X ∧ M1 = M ∧ K1 = K)) 0 0 A := by
  refine met_ofW [(0, .int p0)] (by decide +kernel) (Nat.le_of_ble_eq_true rfl) rfl ?_
  intro G C hl hR hL hD hcy hA had hsa hr hQ
  subst hD hcy hA had hsa hl
  refine g_iload_n C dJ6_bitCount_0f7a4_0 0 rfl ?_
  refine g_iload_n C dJ6_bitCount_0f7a4_1 0 rfl ?_
  refine g_iconst C dJ6_bitCount_0f7a4_2 (v := 1) (by decide) ?_
  refine g_iushr C dJ6_bitCount_0f7a4_3 ?_
  refine g_ldcw C dJ6_bitCount_0f7a4_4 tw609 ?_
  refine g_iand C dJ6_bitCount_0f7a4_7 ?_
  refine g_isub C dJ6_bitCount_0f7a4_8 ?_
  refine g_namei (fun v_1 ev_1 => ?_)
  refine g_istore_n C dJ6_bitCount_0f7a4_9 (L' := [(0, .int v_1)]) rfl (by rw [hL]; decide) ?_
  refine g_iload_n C dJ6_bitCount_0f7a4_10 0 rfl ?_
  refine g_ldcw C dJ6_bitCount_0f7a4_11 tw610 ?_
  refine g_iand C dJ6_bitCount_0f7a4_14 ?_
  refine g_iload_n C dJ6_bitCount_0f7a4_15 0 rfl ?_
  refine g_iconst C dJ6_bitCount_0f7a4_16 (v := 2) (by decide) ?_
  refine g_iushr C dJ6_bitCount_0f7a4_17 ?_
  refine g_ldcw C dJ6_bitCount_0f7a4_18 tw610 ?_
  refine g_iand C dJ6_bitCount_0f7a4_21 ?_
  refine g_iadd C dJ6_bitCount_0f7a4_22 ?_
  refine g_namei (fun v_2 ev_2 => ?_)
  refine g_istore_n C dJ6_bitCount_0f7a4_23 (L' := [(0, .int v_2)]) rfl (by rw [hL]; decide) ?_
  refine g_iload_n C dJ6_bitCount_0f7a4_24 0 rfl ?_
  refine g_iload_n C dJ6_bitCount_0f7a4_25 0 rfl ?_
  refine g_iconst C dJ6_bitCount_0f7a4_26 (v := 4) (by decide) ?_
  refine g_iushr C dJ6_bitCount_0f7a4_27 ?_
  refine g_iadd C dJ6_bitCount_0f7a4_28 ?_
  refine g_ldcw C dJ6_bitCount_0f7a4_29 tw611 ?_
  refine g_iand C dJ6_bitCount_0f7a4_32 ?_
  refine g_namei (fun v_3 ev_3 => ?_)
  refine g_istore_n C dJ6_bitCount_0f7a4_33 (L' := [(0, .int v_3)]) rfl (by rw [hL]; decide) ?_
  refine g_iload_n C dJ6_bitCount_0f7a4_34 0 rfl ?_
  refine g_iload_n C dJ6_bitCount_0f7a4_35 0 rfl ?_
  refine g_bipush C dJ6_bitCount_0f7a4_36 (v := 8) (by decide) ?_
  refine g_iushr C dJ6_bitCount_0f7a4_38 ?_
  refine g_iadd C dJ6_bitCount_0f7a4_39 ?_
  refine g_namei (fun v_4 ev_4 => ?_)
  refine g_istore_n C dJ6_bitCount_0f7a4_40 (L' := [(0, .int v_4)]) rfl (by rw [hL]; decide) ?_
  refine g_iload_n C dJ6_bitCount_0f7a4_41 0 rfl ?_
  refine g_iload_n C dJ6_bitCount_0f7a4_42 0 rfl ?_
  refine g_bipush C dJ6_bitCount_0f7a4_43 (v := 16) (by decide) ?_
  refine g_iushr C dJ6_bitCount_0f7a4_45 ?_
  refine g_iadd C dJ6_bitCount_0f7a4_46 ?_
  refine g_namei (fun v_5 ev_5 => ?_)
  refine g_istore_n C dJ6_bitCount_0f7a4_47 (L' := [(0, .int v_5)]) rfl (by rw [hL]; decide) ?_
  refine g_iload_n C dJ6_bitCount_0f7a4_48 0 rfl ?_
  refine g_bipush C dJ6_bitCount_0f7a4_49 (v := 63) (by decide) ?_
  refine g_iand C dJ6_bitCount_0f7a4_51 ?_
  refine g_iretW C hr hQ (Nat.le_refl _) (Nat.le_refl _) dJ6_bitCount_0f7a4_52 ?_
  exact ⟨by rw [ev_5, ev_4, ev_3, ev_2, ev_1]; rfl, rfl, rfl, rfl⟩

set_option maxHeartbeats 400000 in
set_option maxRecDepth 100000 in
/-- append.append -/
theorem c_X8_append (l : Launch) (D : va_G) (cy : Nat → ClassId) (A : Nat → Prop) (ad sad : Nat → Nat) (X M : XF) (K : KF) (p1 p2 : Int32) (z : Nat) (hz : X 102 0 = nI z) (hzl : z < 16) : Met l yX8_append (wsA yX8_append cX8_append 4 (some .int)) ({ frames := 0, cells := 0, slots := 0, locals := 0 }) (PcW D cy A ad sad X M K [.ref (ad 7), .int p1, .int p2]) (QiW D cy A ad (fun r X1 M1 K1 => r = nI z ∧ X1 = si (sa (sa (sa X 8 (upd (X 8) z p1)) 9 (upd (X 9) z p2)) 12 (upd (X 12) z 45)) 102 (nI z + 1) ∧ M1 = M ∧ K1 = K)) 0 0 A := by
  refine met_ofW [(0, .ref (ad 7)), (1, .int p1), (2, .int p2)] (by decide +kernel) (Nat.le_of_ble_eq_true rfl) rfl ?_
  intro G C hl hR hL hD hcy hA had hsa hr hQ
  subst hD hcy hA had hsa hl
  refine g_aload_n C dX8_append_0 0 rfl ?_
  refine gf_X8_size C tw86 dX8_append_1 ?_
  refine g_topi hz ?_
  refine g_istore_n C dX8_append_4 (L' := [(3, .int (nI z)), (0, .ref (gad G 7)), (1, .int p1), (2, .int p2)]) rfl (by rw [hL]; decide) ?_
  refine g_aload_n C dX8_append_5 1 rfl ?_
  refine gf_X8_from C tw80 dX8_append_6 ?_
  refine g_iload_n C dX8_append_9 0 rfl ?_
  refine g_iload_n C dX8_append_10 2 rfl ?_
  refine as_8 C (by omega) dX8_append_11 ?_
  refine g_aload_n C dX8_append_12 1 rfl ?_
  refine gf_X8_seconds C tw81 dX8_append_13 ?_
  refine g_iload_n C dX8_append_16 0 rfl ?_
  refine g_iload_n C dX8_append_17 3 rfl ?_
  refine as_9 C (by omega) dX8_append_18 ?_
  refine g_aload_n C dX8_append_19 1 rfl ?_
  refine gf_X8_state C tw84 dX8_append_20 ?_
  refine g_iload_n C dX8_append_23 0 rfl ?_
  refine g_bipush C dX8_append_24 (v := 45) (by decide) ?_
  refine as_12 C ⟨by decide, by decide⟩ (by omega) dX8_append_26 ?_
  refine g_aload_n C dX8_append_27 1 rfl ?_
  refine g_dup C dX8_append_28 rfl ?_
  refine gf_X8_size C tw86 dX8_append_29 ?_
  refine g_topi hz ?_
  refine g_iconst C dX8_append_32 (v := 1) (by decide) ?_
  refine g_iadd C dX8_append_33 ?_
  refine pf_X8_size C tw86 dX8_append_34 ?_
  refine g_iload_n C dX8_append_37 0 rfl ?_
  refine g_iretW C hr hQ (Nat.le_refl _) (Nat.le_refl _) dX8_append_38 ?_
  exact ⟨(by first | with_reducible rfl | (first | with_reducible rfl | (simp only [sa_ap, si_ap, si_sa, sa_sa, sa_3, sa_4, sa_5, sa_6, sa_7, sa_8]; done) | (simp [sa_ap, si_ap, si_sa, sa_sa, sa_3, sa_4, sa_5, sa_6, sa_7, sa_8]; done) | rfl)), (by first | with_reducible rfl | (first | with_reducible rfl | (simp only [sa_ap, si_ap, si_sa, sa_sa, sa_3, sa_4, sa_5, sa_6, sa_7, sa_8]; done) | (simp [sa_ap, si_ap, si_sa, sa_sa, sa_3, sa_4, sa_5, sa_6, sa_7, sa_8]; done) | rfl)), rfl, rfl⟩

set_option maxHeartbeats 400000 in
set_option maxRecDepth 100000 in
/-- putBehind.putBehind -/
theorem c_X8_putBehind (l : Launch) (D : va_G) (cy : Nat → ClassId) (A : Nat → Prop) (ad sad : Nat → Nat) (X M : XF) (K : KF) (j : Nat) (hj : j < 16) (p2 : Int32) : Met l yX8_putBehind (wsA yX8_putBehind cX8_putBehind 3 (some .int)) ({ frames := 1, cells := 0, slots := 0, locals := 20 }) (PcW D cy A ad sad X M K [.ref (ad 7), .int (nI j), .int p2]) (QiW D cy A ad (fun r X1 M1 K1 => r = bcnt (X 11 j ||| (1 <<< (p2 &&& 31))) ∧ X1 = sa X 11 (upd (X 11) j (X 11 j ||| (1 <<< (p2 &&& 31)))) ∧ M1 = M ∧ K1 = K)) 0 0 A := by
  refine met_ofW [(0, .ref (ad 7)), (1, .int (nI j)), (2, .int p2)] (by decide +kernel) (Nat.le_of_ble_eq_true rfl) rfl ?_
  intro G C hl hR hL hD hcy hA had hsa hr hQ
  subst hD hcy hA had hsa hl
  refine g_aload_n C dX8_putBehind_0 0 rfl ?_
  refine gf_X8_behind C tw83 dX8_putBehind_1 ?_
  refine g_iload_n C dX8_putBehind_4 1 rfl ?_
  refine g_dup2 C dX8_putBehind_5 rfl rfl ?_
  refine al_11 C (by omega) dX8_putBehind_6 ?_
  refine g_iconst C dX8_putBehind_7 (v := 1) (by decide) ?_
  refine g_iload_n C dX8_putBehind_8 2 rfl ?_
  refine g_ishl C dX8_putBehind_9 ?_
  refine g_ior C dX8_putBehind_10 ?_
  refine as_11 C (by omega) dX8_putBehind_11 ?_
  refine g_aload_n C dX8_putBehind_12 0 rfl ?_
  refine gf_X8_behind C tw83 dX8_putBehind_13 ?_
  refine g_iload_n C dX8_putBehind_16 1 rfl ?_
  refine al_11 C (by omega) dX8_putBehind_17 ?_
  refine g_callSiW C dX8_putBehind_18 (c_J6_bitCount_0f7a4 _ _ _ _ _ _ _ _ _ _) tw606 tw607 tw25 tw608 rfl ⟨by decide +kernel, by decide +kernel, rfl⟩ ⟨rfl, rfl⟩ (by rw [hR]; decide) (Nat.le_of_ble_eq_true rfl) (by rw [hR]; decide) (fun r_1 X1 M1 K1 h_2 => ?_)
  obtain ⟨er_1, hX1, hM1, hK1⟩ := h_2
  subst X1 M1 K1
  try simp only [sa_ap, si_ap, reduceIte, Nat.reduceEqDiff] at er_1
  refine g_iretW C hr hQ (Nat.le_refl _) (Nat.le_refl _) dX8_putBehind_21 ?_
  exact ⟨(by first | with_reducible rfl | (subst er_1; first | with_reducible rfl | (simp only [sa_ap, si_ap, si_sa, sa_sa, sa_3, sa_4, sa_5, sa_6, sa_7, sa_8, up_us]; done) | (simp [sa_ap, si_ap, si_sa, sa_sa, sa_3, sa_4, sa_5, sa_6, sa_7, sa_8, up_us]; done) | rfl)), (by first | with_reducible rfl | (subst er_1; first | with_reducible rfl | (simp only [sa_ap, si_ap, si_sa, sa_sa, sa_3, sa_4, sa_5, sa_6, sa_7, sa_8, up_us]; done) | (simp [sa_ap, si_ap, si_sa, sa_sa, sa_3, sa_4, sa_5, sa_6, sa_7, sa_8, up_us]; done) | rfl)), rfl, rfl⟩

set_option maxHeartbeats 400000 in
set_option maxRecDepth 100000 in
/-- haveAll.haveAll -/
theorem c_X8_haveAll (l : Launch) (D : va_G) (cy : Nat → ClassId) (A : Nat → Prop) (ad sad : Nat → Nat) (X M : XF) (K : KF) (p1 : Int32) : Met l yX8_haveAll (wsA yX8_haveAll cX8_haveAll 2 (some .boolean)) ({ frames := 0, cells := 0, slots := 0, locals := 0 }) (PcW D cy A ad sad X M K [.ref (ad 7), .int p1]) (QiW D cy A ad (fun r X1 M1 K1 => r = adn (ush p1 (X 102 0)) ∧ X1 = X ∧ M1 = M ∧ K1 = K)) 0 0 A := by
  refine met_ofW [(0, .ref (ad 7)), (1, .int p1)] (by decide +kernel) (Nat.le_of_ble_eq_true rfl) rfl ?_
  intro G C hl hR hL hD hcy hA had hsa hr hQ
  subst hD hcy hA had hsa hl
  refine g_iload_n C dX8_haveAll_0 1 rfl ?_
  refine g_aload_n C dX8_haveAll_1 0 rfl ?_
  refine gf_X8_size C tw86 dX8_haveAll_2 ?_
  refine g_iushr C dX8_haveAll_5 ?_
  refine g_if_ne C dX8_haveAll_6 (tgt := 13) (by decide) (fun c_6 => ?_) (fun c_6 => ?_)
  · try simp only [sa_ap, si_ap, reduceIte, Nat.reduceEqDiff, up_us, lg_cmp_lt, lg_cmp_gt, lg_cmp_le, lg_cmp_ge] at c_6
    refine g_iconst C dX8_haveAll_13 (v := 0) (by decide) ?_
    refine g_zretW C hr (by decide) hQ (Nat.le_refl _) (Nat.le_refl _) dX8_haveAll_14 ?_
    exact ⟨(by first | with_reducible rfl | (first | with_reducible rfl | (simp only [sa_ap, si_ap, si_sa, sa_sa, sa_3, sa_4, sa_5, sa_6, sa_7, sa_8, ush, adn, c_6]; done) | (simp [sa_ap, si_ap, si_sa, sa_sa, sa_3, sa_4, sa_5, sa_6, sa_7, sa_8, ush, adn, c_6]; done) | rfl)), (by first | with_reducible rfl | (first | with_reducible rfl | (simp only [sa_ap, si_ap, si_sa, sa_sa, sa_3, sa_4, sa_5, sa_6, sa_7, sa_8, ush, adn, c_6]; done) | (simp [sa_ap, si_ap, si_sa, sa_sa, sa_3, sa_4, sa_5, sa_6, sa_7, sa_8, ush, adn, c_6]; done) | rfl)), rfl, rfl⟩
  · try simp only [sa_ap, si_ap, reduceIte, Nat.reduceEqDiff, up_us, lg_cmp_lt, lg_cmp_gt, lg_cmp_le, lg_cmp_ge] at c_6
    refine g_iconst C dX8_haveAll_9 (v := 1) (by decide) ?_
    refine g_goto C dX8_haveAll_10 (tgt := 14) (by decide) ?_
    refine g_zretW C hr (by decide) hQ (Nat.le_refl _) (Nat.le_refl _) dX8_haveAll_14 ?_
    exact ⟨(by first | with_reducible rfl | (first | with_reducible rfl | (simp only [sa_ap, si_ap, si_sa, sa_sa, sa_3, sa_4, sa_5, sa_6, sa_7, sa_8, ush, adn, c_6]; done) | (simp [sa_ap, si_ap, si_sa, sa_sa, sa_3, sa_4, sa_5, sa_6, sa_7, sa_8, ush, adn, c_6]; done) | rfl)), (by first | with_reducible rfl | (first | with_reducible rfl | (simp only [sa_ap, si_ap, si_sa, sa_sa, sa_3, sa_4, sa_5, sa_6, sa_7, sa_8, ush, adn, c_6]; done) | (simp [sa_ap, si_ap, si_sa, sa_sa, sa_3, sa_4, sa_5, sa_6, sa_7, sa_8, ush, adn, c_6]; done) | rfl)), rfl, rfl⟩

set_option maxHeartbeats 400000 in
set_option maxRecDepth 100000 in
/-- doneOnes.doneOnes -/
theorem c_X8_doneOnes (l : Launch) (D : va_G) (cy : Nat → ClassId) (A : Nat → Prop) (ad sad : Nat → Nat) (X M : XF) (K : KF) (z : Nat) (hz : X 102 0 = nI z) (hzl : z ≤ 16) : Met l yX8_doneOnes (wsA yX8_doneOnes cX8_doneOnes 3 (some .int)) ({ frames := 0, cells := 0, slots := 0, locals := 0 }) (PcW D cy A ad sad X M K [.ref (ad 7)]) (QiW D cy A ad (fun r X1 M1 K1 => r = sp_on (X 12) z ∧ X1 = X ∧ M1 = M ∧ K1 = K)) 0 0 A := by
  refine met_ofW [(0, .ref (ad 7))] (by decide +kernel) (Nat.le_of_ble_eq_true rfl) rfl ?_
  intro G C hl hR hL hD hcy hA had hsa hr hQ
  subst hD hcy hA had hsa hl
  refine g_iconst C dX8_doneOnes_0 (v := 0) (by decide) ?_
  refine g_istore_n C dX8_doneOnes_1 (L' := [(1, .int 0), (0, .ref (gad G 7))]) rfl (by rw [hL]; decide) ?_
  refine g_iconst C dX8_doneOnes_2 (v := 0) (by decide) ?_
  refine g_istore_n C dX8_doneOnes_3 (L' := [(2, .int 0), (1, .int 0), (0, .ref (gad G 7))]) rfl (by rw [hL]; decide) ?_
  have lp4 : ∀ (n i : Nat) (a : Int32) (hi : i + n = z) (ha : a = sp_on (X 12) i), GH G (WX G X M K) [(0, .ref (gad G 7)), (1, .int a), (2, .int (nI i))] 0 0 4 [] := by
    intro n
    induction n with
    | zero =>
      intro i a hi ha
      obtain rfl : z = i := by omega
      refine g_iload_n C dX8_doneOnes_4 2 rfl ?_
      refine g_aload_n C dX8_doneOnes_5 0 rfl ?_
      refine gf_X8_size C tw86 dX8_doneOnes_6 ?_
      refine g_topi hz ?_
      refine g_icmp_ge C dX8_doneOnes_9 (tgt := 39) (by decide) (fun c_9 => ?_) (fun c_9 => absurd (nI_le (a := z) (b := z) (Nat.le_refl _) (by omega)) c_9)
      refine g_iload_n C dX8_doneOnes_39 1 rfl ?_
      refine g_iretW C hr hQ (Nat.le_refl _) (Nat.le_refl _) dX8_doneOnes_40 ?_
      exact ⟨(by first | with_reducible rfl | (subst ha; first | with_reducible rfl | (simp only [sa_ap, si_ap, si_sa, sa_sa, sa_3, sa_4, sa_5, sa_6, sa_7, sa_8, sp_on]; done) | (simp [sa_ap, si_ap, si_sa, sa_sa, sa_3, sa_4, sa_5, sa_6, sa_7, sa_8, sp_on]; done) | rfl)), (by first | with_reducible rfl | (subst ha; first | with_reducible rfl | (simp only [sa_ap, si_ap, si_sa, sa_sa, sa_3, sa_4, sa_5, sa_6, sa_7, sa_8, sp_on]; done) | (simp [sa_ap, si_ap, si_sa, sa_sa, sa_3, sa_4, sa_5, sa_6, sa_7, sa_8, sp_on]; done) | rfl)), rfl, rfl⟩
    | succ n ih =>
      intro i a hi ha
      refine g_iload_n C dX8_doneOnes_4 2 rfl ?_
      refine g_aload_n C dX8_doneOnes_5 0 rfl ?_
      refine gf_X8_size C tw86 dX8_doneOnes_6 ?_
      refine g_topi hz ?_
      refine g_icmp_ge C dX8_doneOnes_9 (tgt := 39) (by decide) (fun c_9 => absurd c_9 (nI_ge (a := i) (b := z) (by omega) (by omega))) (fun c_9 => ?_)
      refine g_iload_n C dX8_doneOnes_12 1 rfl ?_
      refine g_aload_n C dX8_doneOnes_13 0 rfl ?_
      refine gf_X8_state C tw84 dX8_doneOnes_14 ?_
      refine g_iload_n C dX8_doneOnes_17 2 rfl ?_
      refine al_12 C (by omega) dX8_doneOnes_18 ?_
      refine g_bipush C dX8_doneOnes_19 (v := 101) (by decide) ?_
      refine g_icmp_ne C dX8_doneOnes_21 (tgt := 30) (by decide) (fun c_21 => ?_) (fun c_21 => ?_)
      · try simp only [sa_ap, si_ap, reduceIte, Nat.reduceEqDiff, up_us, lg_cmp_lt, lg_cmp_gt, lg_cmp_le, lg_cmp_ge] at c_21
        refine g_iconst C dX8_doneOnes_30 (v := 0) (by decide) ?_
        refine g_ior C dX8_doneOnes_31 ?_
        refine g_namei (fun v_1 ev_1 => ?_)
        refine g_istore_n C dX8_doneOnes_32 (L' := [(1, .int v_1), (0, .ref (gad G 7)), (2, .int (nI i))]) rfl (by rw [hL]; decide) ?_
        refine g_iinc C dX8_doneOnes_33 2 rfl (v := nI (i + 1)) (nI_1 _) (L' := [(2, .int (nI (i + 1))), (1, .int v_1), (0, .ref (gad G 7))]) rfl (by rw [hL]; decide) ?_
        refine g_goto C dX8_doneOnes_36 (tgt := 4) (by decide) ?_
        exact g_sub [2, 1, 0] rfl (ih (i + 1) _ (by omega) (by first | with_reducible rfl | (subst ha ev_1; first | with_reducible rfl | (simp only [sa_ap, si_ap, si_sa, sa_sa, sa_3, sa_4, sa_5, sa_6, sa_7, sa_8, sp_on, c_21]; done) | (simp [sa_ap, si_ap, si_sa, sa_sa, sa_3, sa_4, sa_5, sa_6, sa_7, sa_8, sp_on, c_21]; done) | rfl)))
      · try simp only [sa_ap, si_ap, reduceIte, Nat.reduceEqDiff, up_us, lg_cmp_lt, lg_cmp_gt, lg_cmp_le, lg_cmp_ge] at c_21
        refine g_iconst C dX8_doneOnes_24 (v := 1) (by decide) ?_
        refine g_iload_n C dX8_doneOnes_25 2 rfl ?_
        refine g_ishl C dX8_doneOnes_26 ?_
        refine g_goto C dX8_doneOnes_27 (tgt := 31) (by decide) ?_
        refine g_ior C dX8_doneOnes_31 ?_
        refine g_namei (fun v_2 ev_2 => ?_)
        refine g_istore_n C dX8_doneOnes_32 (L' := [(1, .int v_2), (0, .ref (gad G 7)), (2, .int (nI i))]) rfl (by rw [hL]; decide) ?_
        refine g_iinc C dX8_doneOnes_33 2 rfl (v := nI (i + 1)) (nI_1 _) (L' := [(2, .int (nI (i + 1))), (1, .int v_2), (0, .ref (gad G 7))]) rfl (by rw [hL]; decide) ?_
        refine g_goto C dX8_doneOnes_36 (tgt := 4) (by decide) ?_
        exact g_sub [2, 1, 0] rfl (ih (i + 1) _ (by omega) (by first | with_reducible rfl | (subst ha ev_2; first | with_reducible rfl | (simp only [sa_ap, si_ap, si_sa, sa_sa, sa_3, sa_4, sa_5, sa_6, sa_7, sa_8, sp_on, c_21]; done) | (simp [sa_ap, si_ap, si_sa, sa_sa, sa_3, sa_4, sa_5, sa_6, sa_7, sa_8, sp_on, c_21]; done) | rfl)))
  exact g_sub [2, 1, 0] rfl (lp4 (z) 0 _ (by omega) (by first | with_reducible rfl | (first | with_reducible rfl | (simp only [sa_ap, si_ap, si_sa, sa_sa, sa_3, sa_4, sa_5, sa_6, sa_7, sa_8, sp_on]; done) | (simp [sa_ap, si_ap, si_sa, sa_sa, sa_3, sa_4, sa_5, sa_6, sa_7, sa_8, sp_on]; done) | rfl)))

set_option maxHeartbeats 400000 in
set_option maxRecDepth 100000 in
/-- areDone.areDone -/
theorem c_X8_areDone (l : Launch) (D : va_G) (cy : Nat → ClassId) (A : Nat → Prop) (ad sad : Nat → Nat) (X M : XF) (K : KF) (p1 : Int32) (z : Nat) (hz : X 102 0 = nI z) (hzl : z ≤ 16) : Met l yX8_areDone (wsA yX8_areDone cX8_areDone 2 (some .boolean)) ({ frames := 1, cells := 0, slots := 0, locals := 22 }) (PcW D cy A ad sad X M K [.ref (ad 7), .int p1]) (QiW D cy A ad (fun r X1 M1 K1 => r = adn (p1 &&& nt (sp_on (X 12) z)) ∧ X1 = X ∧ M1 = M ∧ K1 = K)) 0 0 A := by
  refine met_ofW [(0, .ref (ad 7)), (1, .int p1)] (by decide +kernel) (Nat.le_of_ble_eq_true rfl) rfl ?_
  intro G C hl hR hL hD hcy hA had hsa hr hQ
  subst hD hcy hA had hsa hl
  refine g_iload_n C dX8_areDone_0 1 rfl ?_
  refine g_aload_n C dX8_areDone_1 0 rfl ?_
  refine g_callViW C dX8_areDone_2 (c_X8_doneOnes _ _ _ _ _ _ _ _ _ _ hz hzl) tw918 tw919 tw920 tw3 tw921 (rv_X8 C) rfl ⟨by decide +kernel, by decide +kernel, rfl⟩ ⟨rfl, rfl⟩ (by rw [hR]; decide) (Nat.le_of_ble_eq_true rfl) (by rw [hR]; decide) (fun r_1 X1 M1 K1 h_2 => ?_)
  obtain ⟨er_1, hX1, hM1, hK1⟩ := h_2
  subst X1 M1 K1
  try simp only [sa_ap, si_ap, reduceIte, Nat.reduceEqDiff] at er_1
  refine g_iconst C dX8_areDone_5 (v := (-1)) (by decide) ?_
  refine g_ixor C dX8_areDone_6 ?_
  refine g_topi (y := nt _) rfl ?_
  refine g_iand C dX8_areDone_7 ?_
  refine g_if_ne C dX8_areDone_8 (tgt := 15) (by decide) (fun c_8 => ?_) (fun c_8 => ?_)
  · try simp only [sa_ap, si_ap, reduceIte, Nat.reduceEqDiff, up_us, lg_cmp_lt, lg_cmp_gt, lg_cmp_le, lg_cmp_ge] at c_8
    refine g_iconst C dX8_areDone_15 (v := 0) (by decide) ?_
    refine g_zretW C hr (by decide) hQ (Nat.le_refl _) (Nat.le_refl _) dX8_areDone_16 ?_
    exact ⟨(by first | with_reducible rfl | (subst er_1; first | with_reducible rfl | (simp only [sa_ap, si_ap, si_sa, sa_sa, sa_3, sa_4, sa_5, sa_6, sa_7, sa_8, adn, c_8]; done) | (simp [sa_ap, si_ap, si_sa, sa_sa, sa_3, sa_4, sa_5, sa_6, sa_7, sa_8, adn, c_8]; done) | rfl)), (by first | with_reducible rfl | (subst er_1; first | with_reducible rfl | (simp only [sa_ap, si_ap, si_sa, sa_sa, sa_3, sa_4, sa_5, sa_6, sa_7, sa_8, adn, c_8]; done) | (simp [sa_ap, si_ap, si_sa, sa_sa, sa_3, sa_4, sa_5, sa_6, sa_7, sa_8, adn, c_8]; done) | rfl)), rfl, rfl⟩
  · try simp only [sa_ap, si_ap, reduceIte, Nat.reduceEqDiff, up_us, lg_cmp_lt, lg_cmp_gt, lg_cmp_le, lg_cmp_ge] at c_8
    refine g_iconst C dX8_areDone_11 (v := 1) (by decide) ?_
    refine g_goto C dX8_areDone_12 (tgt := 16) (by decide) ?_
    refine g_zretW C hr (by decide) hQ (Nat.le_refl _) (Nat.le_refl _) dX8_areDone_16 ?_
    exact ⟨(by first | with_reducible rfl | (subst er_1; first | with_reducible rfl | (simp only [sa_ap, si_ap, si_sa, sa_sa, sa_3, sa_4, sa_5, sa_6, sa_7, sa_8, adn, c_8]; done) | (simp [sa_ap, si_ap, si_sa, sa_sa, sa_3, sa_4, sa_5, sa_6, sa_7, sa_8, adn, c_8]; done) | rfl)), (by first | with_reducible rfl | (subst er_1; first | with_reducible rfl | (simp only [sa_ap, si_ap, si_sa, sa_sa, sa_3, sa_4, sa_5, sa_6, sa_7, sa_8, adn, c_8]; done) | (simp [sa_ap, si_ap, si_sa, sa_sa, sa_3, sa_4, sa_5, sa_6, sa_7, sa_8, adn, c_8]; done) | rfl)), rfl, rfl⟩

set_option maxHeartbeats 400000 in
set_option maxRecDepth 100000 in
/-- startAgain.startAgain -/
theorem c_X8_startAgain (l : Launch) (D : va_G) (cy : Nat → ClassId) (A : Nat → Prop) (ad sad : Nat → Nat) (X M : XF) (K : KF) (z : Nat) (hz : X 102 0 = nI z) (hzl : z ≤ 16) : Met l yX8_startAgain (wsA yX8_startAgain cX8_startAgain 2 none) ({ frames := 0, cells := 0, slots := 0, locals := 0 }) (PcW D cy A ad sad X M K [.ref (ad 7)]) (QvW D cy A ad (fun X1 M1 K1 => X1 = sa X 12 (sp_again (X 12) z) ∧ M1 = M ∧ K1 = K)) 0 0 A := by
  refine met_ofW [(0, .ref (ad 7))] (by decide +kernel) (Nat.le_of_ble_eq_true rfl) rfl ?_
  intro G C hl hR hL hD hcy hA had hsa hr hQ
  subst hD hcy hA had hsa hl
  refine g_iconst C dX8_startAgain_0 (v := 0) (by decide) ?_
  refine g_istore_n C dX8_startAgain_1 (L' := [(1, .int 0), (0, .ref (gad G 7))]) rfl (by rw [hL]; decide) ?_
  have lp2 : ∀ (n i : Nat) (hi : i + n = z), GH G (WX G (sa X 12 (sp_again (X 12) i)) M K) [(0, .ref (gad G 7)), (1, .int (nI i))] 0 0 2 [] := by
    intro n
    induction n with
    | zero =>
      intro i hi
      obtain rfl : z = i := by omega
      refine g_iload_n C dX8_startAgain_2 1 rfl ?_
      refine g_aload_n C dX8_startAgain_3 0 rfl ?_
      refine gf_X8_size C tw86 dX8_startAgain_4 ?_
      refine g_topi hz ?_
      refine g_icmp_ge C dX8_startAgain_7 (tgt := 24) (by decide) (fun c_7 => ?_) (fun c_7 => absurd (nI_le (a := z) (b := z) (Nat.le_refl _) (by omega)) c_7)
      refine g_vretW C hr hQ (Nat.le_refl _) (Nat.le_refl _) dX8_startAgain_24 ?_
      exact ⟨(by first | with_reducible rfl | (first | with_reducible rfl | (simp only [sa_ap, si_ap, si_sa, sa_sa, sa_3, sa_4, sa_5, sa_6, sa_7, sa_8, sp_again]; done) | (simp [sa_ap, si_ap, si_sa, sa_sa, sa_3, sa_4, sa_5, sa_6, sa_7, sa_8, sp_again]; done) | rfl)), rfl, rfl⟩
    | succ n ih =>
      intro i hi
      refine g_iload_n C dX8_startAgain_2 1 rfl ?_
      refine g_aload_n C dX8_startAgain_3 0 rfl ?_
      refine gf_X8_size C tw86 dX8_startAgain_4 ?_
      refine g_topi hz ?_
      refine g_icmp_ge C dX8_startAgain_7 (tgt := 24) (by decide) (fun c_7 => absurd c_7 (nI_ge (a := i) (b := z) (by omega) (by omega))) (fun c_7 => ?_)
      refine g_aload_n C dX8_startAgain_10 0 rfl ?_
      refine gf_X8_state C tw84 dX8_startAgain_11 ?_
      refine g_iload_n C dX8_startAgain_14 1 rfl ?_
      refine g_bipush C dX8_startAgain_15 (v := 45) (by decide) ?_
      refine as_12 C ⟨by decide, by decide⟩ (by omega) dX8_startAgain_17 ?_
      refine g_iinc C dX8_startAgain_18 1 rfl (v := nI (i + 1)) (nI_1 _) (L' := [(1, .int (nI (i + 1))), (0, .ref (gad G 7))]) rfl (by rw [hL]; decide) ?_
      refine g_goto C dX8_startAgain_21 (tgt := 2) (by decide) ?_
      exact g_sub [1, 0] rfl (g_X (by first | with_reducible rfl | (first | with_reducible rfl | (simp only [sa_ap, si_ap, si_sa, sa_sa, sa_3, sa_4, sa_5, sa_6, sa_7, sa_8, sp_again]; done) | (simp [sa_ap, si_ap, si_sa, sa_sa, sa_3, sa_4, sa_5, sa_6, sa_7, sa_8, sp_again]; done) | rfl)) (ih (i + 1) (by omega)))
  exact g_sub [1, 0] rfl (g_X (sa_self X 12).symm (lp2 (z) 0 (by omega)))

set_option maxHeartbeats 400000 in
set_option maxRecDepth 100000 in
/-- undoFrom.undoFrom -/
theorem c_X8_undoFrom (l : Launch) (D : va_G) (cy : Nat → ClassId) (A : Nat → Prop) (ad sad : Nat → Nat) (X M : XF) (K : KF) (p1 : Int32) (z : Nat) (hz : X 102 0 = nI z) (hzl : z ≤ 16) : Met l yX8_undoFrom (wsA yX8_undoFrom cX8_undoFrom 4 (some .int)) ({ frames := 0, cells := 0, slots := 0, locals := 0 }) (PcW D cy A ad sad X M K [.ref (ad 7), .int p1]) (QiW D cy A ad (fun r X1 M1 K1 => r = sp_undoN (X 8) (X 12) p1 z ∧ X1 = sa X 12 (sp_undo (X 8) (X 12) p1 z) ∧ M1 = M ∧ K1 = K)) 0 0 A := by
  refine met_ofW [(0, .ref (ad 7)), (1, .int p1)] (by decide +kernel) (Nat.le_of_ble_eq_true rfl) rfl ?_
  intro G C hl hR hL hD hcy hA had hsa hr hQ
  subst hD hcy hA had hsa hl
  refine g_iconst C dX8_undoFrom_0 (v := 0) (by decide) ?_
  refine g_istore_n C dX8_undoFrom_1 (L' := [(2, .int 0), (0, .ref (gad G 7)), (1, .int p1)]) rfl (by rw [hL]; decide) ?_
  refine g_iconst C dX8_undoFrom_2 (v := 0) (by decide) ?_
  refine g_istore_n C dX8_undoFrom_3 (L' := [(3, .int 0), (2, .int 0), (0, .ref (gad G 7)), (1, .int p1)]) rfl (by rw [hL]; decide) ?_
  have lp4 : ∀ (n i : Nat) (a : Int32) (hi : i + n = z) (ha : a = sp_undoN (X 8) (X 12) p1 i), GH G (WX G (sa X 12 (sp_undo (X 8) (X 12) p1 i)) M K) [(0, .ref (gad G 7)), (1, .int p1), (2, .int a), (3, .int (nI i))] 0 0 4 [] := by
    intro n
    induction n with
    | zero =>
      intro i a hi ha
      obtain rfl : z = i := by omega
      refine g_iload_n C dX8_undoFrom_4 3 rfl ?_
      refine g_aload_n C dX8_undoFrom_5 0 rfl ?_
      refine gf_X8_size C tw86 dX8_undoFrom_6 ?_
      refine g_topi hz ?_
      refine g_icmp_ge C dX8_undoFrom_9 (tgt := 50) (by decide) (fun c_9 => ?_) (fun c_9 => absurd (nI_le (a := z) (b := z) (Nat.le_refl _) (by omega)) c_9)
      refine g_iload_n C dX8_undoFrom_50 2 rfl ?_
      refine g_iretW C hr hQ (Nat.le_refl _) (Nat.le_refl _) dX8_undoFrom_51 ?_
      exact ⟨(by first | with_reducible rfl | (subst ha; first | with_reducible rfl | (simp only [sa_ap, si_ap, si_sa, sa_sa, sa_3, sa_4, sa_5, sa_6, sa_7, sa_8, sp_undo, sp_undoN]; done) | (simp [sa_ap, si_ap, si_sa, sa_sa, sa_3, sa_4, sa_5, sa_6, sa_7, sa_8, sp_undo, sp_undoN]; done) | rfl)), (by first | with_reducible rfl | (subst ha; first | with_reducible rfl | (simp only [sa_ap, si_ap, si_sa, sa_sa, sa_3, sa_4, sa_5, sa_6, sa_7, sa_8, sp_undo, sp_undoN]; done) | (simp [sa_ap, si_ap, si_sa, sa_sa, sa_3, sa_4, sa_5, sa_6, sa_7, sa_8, sp_undo, sp_undoN]; done) | rfl)), rfl, rfl⟩
    | succ n ih =>
      intro i a hi ha
      refine g_iload_n C dX8_undoFrom_4 3 rfl ?_
      refine g_aload_n C dX8_undoFrom_5 0 rfl ?_
      refine gf_X8_size C tw86 dX8_undoFrom_6 ?_
      refine g_topi hz ?_
      refine g_icmp_ge C dX8_undoFrom_9 (tgt := 50) (by decide) (fun c_9 => absurd c_9 (nI_ge (a := i) (b := z) (by omega) (by omega))) (fun c_9 => ?_)
      refine g_aload_n C dX8_undoFrom_12 0 rfl ?_
      refine gf_X8_from C tw80 dX8_undoFrom_13 ?_
      refine g_iload_n C dX8_undoFrom_16 3 rfl ?_
      refine al_8 C (by omega) dX8_undoFrom_17 ?_
      refine g_iload_n C dX8_undoFrom_18 1 rfl ?_
      refine g_icmp_lt C dX8_undoFrom_19 (tgt := 44) (by decide) (fun c_19 => ?_) (fun c_19 => ?_)
      · try simp only [sa_ap, si_ap, reduceIte, Nat.reduceEqDiff, up_us, lg_cmp_lt, lg_cmp_gt, lg_cmp_le, lg_cmp_ge] at c_19
        refine g_iinc C dX8_undoFrom_44 3 rfl (v := nI (i + 1)) (nI_1 _) (L' := [(3, .int (nI (i + 1))), (0, .ref (gad G 7)), (1, .int p1), (2, .int a)]) rfl (by rw [hL]; decide) ?_
        refine g_goto C dX8_undoFrom_47 (tgt := 4) (by decide) ?_
        exact g_sub [1, 2, 3, 0] rfl (g_X (by first | with_reducible rfl | (subst ha; first | with_reducible rfl | (simp only [sa_ap, si_ap, si_sa, sa_sa, sa_3, sa_4, sa_5, sa_6, sa_7, sa_8, sp_undo, sp_undoN, c_19]; done) | (simp [sa_ap, si_ap, si_sa, sa_sa, sa_3, sa_4, sa_5, sa_6, sa_7, sa_8, sp_undo, sp_undoN, c_19]; done) | rfl)) (ih (i + 1) _ (by omega) (by first | with_reducible rfl | (subst ha; first | with_reducible rfl | (simp only [sa_ap, si_ap, si_sa, sa_sa, sa_3, sa_4, sa_5, sa_6, sa_7, sa_8, sp_undo, sp_undoN, c_19]; done) | (simp [sa_ap, si_ap, si_sa, sa_sa, sa_3, sa_4, sa_5, sa_6, sa_7, sa_8, sp_undo, sp_undoN, c_19]; done) | rfl))))
      · try simp only [sa_ap, si_ap, reduceIte, Nat.reduceEqDiff, up_us, lg_cmp_lt, lg_cmp_gt, lg_cmp_le, lg_cmp_ge] at c_19
        refine g_aload_n C dX8_undoFrom_22 0 rfl ?_
        refine gf_X8_state C tw84 dX8_undoFrom_23 ?_
        refine g_iload_n C dX8_undoFrom_26 3 rfl ?_
        refine al_12 C (by omega) dX8_undoFrom_27 ?_
        refine g_bipush C dX8_undoFrom_28 (v := 45) (by decide) ?_
        refine g_icmp_eq C dX8_undoFrom_30 (tgt := 44) (by decide) (fun c_30 => ?_) (fun c_30 => ?_)
        · try simp only [sa_ap, si_ap, reduceIte, Nat.reduceEqDiff, up_us, lg_cmp_lt, lg_cmp_gt, lg_cmp_le, lg_cmp_ge] at c_30
          refine g_iinc C dX8_undoFrom_44 3 rfl (v := nI (i + 1)) (nI_1 _) (L' := [(3, .int (nI (i + 1))), (0, .ref (gad G 7)), (1, .int p1), (2, .int a)]) rfl (by rw [hL]; decide) ?_
          refine g_goto C dX8_undoFrom_47 (tgt := 4) (by decide) ?_
          exact g_sub [1, 2, 3, 0] rfl (g_X (by first | with_reducible rfl | (subst ha; first | with_reducible rfl | (simp only [sa_ap, si_ap, si_sa, sa_sa, sa_3, sa_4, sa_5, sa_6, sa_7, sa_8, sp_undo, sp_undoN, c_19, c_30]; done) | (simp [sa_ap, si_ap, si_sa, sa_sa, sa_3, sa_4, sa_5, sa_6, sa_7, sa_8, sp_undo, sp_undoN, c_19, c_30]; done) | rfl)) (ih (i + 1) _ (by omega) (by first | with_reducible rfl | (subst ha; first | with_reducible rfl | (simp only [sa_ap, si_ap, si_sa, sa_sa, sa_3, sa_4, sa_5, sa_6, sa_7, sa_8, sp_undo, sp_undoN, c_19, c_30]; done) | (simp [sa_ap, si_ap, si_sa, sa_sa, sa_3, sa_4, sa_5, sa_6, sa_7, sa_8, sp_undo, sp_undoN, c_19, c_30]; done) | rfl))))
        · try simp only [sa_ap, si_ap, reduceIte, Nat.reduceEqDiff, up_us, lg_cmp_lt, lg_cmp_gt, lg_cmp_le, lg_cmp_ge] at c_30
          refine g_aload_n C dX8_undoFrom_33 0 rfl ?_
          refine gf_X8_state C tw84 dX8_undoFrom_34 ?_
          refine g_iload_n C dX8_undoFrom_37 3 rfl ?_
          refine g_bipush C dX8_undoFrom_38 (v := 45) (by decide) ?_
          refine as_12 C ⟨by decide, by decide⟩ (by omega) dX8_undoFrom_40 ?_
          obtain ⟨v_1, ev_1⟩ : ∃ v : Int32, v = a + 1 := ⟨_, rfl⟩
          refine g_iinc C dX8_undoFrom_41 2 rfl (v := v_1) (by rw [ev_1]; rfl) (L' := [(2, .int v_1), (0, .ref (gad G 7)), (1, .int p1), (3, .int (nI i))]) rfl (by rw [hL]; decide) ?_
          refine g_iinc C dX8_undoFrom_44 3 rfl (v := nI (i + 1)) (nI_1 _) (L' := [(3, .int (nI (i + 1))), (2, .int v_1), (0, .ref (gad G 7)), (1, .int p1)]) rfl (by rw [hL]; decide) ?_
          refine g_goto C dX8_undoFrom_47 (tgt := 4) (by decide) ?_
          exact g_sub [2, 3, 1, 0] rfl (g_X (by first | with_reducible rfl | (subst ha ev_1; first | with_reducible rfl | (simp only [sa_ap, si_ap, si_sa, sa_sa, sa_3, sa_4, sa_5, sa_6, sa_7, sa_8, sp_undo, sp_undoN, c_19, c_30]; done) | (simp [sa_ap, si_ap, si_sa, sa_sa, sa_3, sa_4, sa_5, sa_6, sa_7, sa_8, sp_undo, sp_undoN, c_19, c_30]; done) | rfl)) (ih (i + 1) _ (by omega) (by first | with_reducible rfl | (subst ha ev_1; first | with_reducible rfl | (simp only [sa_ap, si_ap, si_sa, sa_sa, sa_3, sa_4, sa_5, sa_6, sa_7, sa_8, sp_undo, sp_undoN, c_19, c_30]; done) | (simp [sa_ap, si_ap, si_sa, sa_sa, sa_3, sa_4, sa_5, sa_6, sa_7, sa_8, sp_undo, sp_undoN, c_19, c_30]; done) | rfl))))
  exact g_sub [2, 3, 1, 0] rfl (g_X (sa_self X 12).symm (lp4 (z) 0 _ (by omega) (by first | with_reducible rfl | (first | with_reducible rfl | (simp only [sa_ap, si_ap, si_sa, sa_sa, sa_3, sa_4, sa_5, sa_6, sa_7, sa_8, sp_undo, sp_undoN]; done) | (simp [sa_ap, si_ap, si_sa, sa_sa, sa_3, sa_4, sa_5, sa_6, sa_7, sa_8, sp_undo, sp_undoN]; done) | rfl))))

set_option maxHeartbeats 400000 in
set_option maxRecDepth 100000 in
/-- work.work -/
theorem c_X8_work (l : Launch) (D : va_G) (cy : Nat → ClassId) (A : Nat → Prop) (ad sad : Nat → Nat) (X M : XF) (K : KF) (p1 : Int32) (z : Nat) (hz : X 102 0 = nI z) (hzl : z ≤ 16) : Met l yX8_work (wsA yX8_work cX8_work 4 none) ({ frames := 1, cells := 0, slots := 0, locals := 22 }) (PcW D cy A ad sad X M K [.ref (ad 7), .int p1]) (QvW D cy A ad (fun X1 M1 K1 => X1 = sa (sa X 10 (sp_wb (sp_on (sp_wa (X 10) (X 12) z).2 z) p1 (X 8) (X 9) (X 11) (sp_wa (X 10) (X 12) z).1 (sp_wa (X 10) (X 12) z).2 z).1) 12 (sp_wb (sp_on (sp_wa (X 10) (X 12) z).2 z) p1 (X 8) (X 9) (X 11) (sp_wa (X 10) (X 12) z).1 (sp_wa (X 10) (X 12) z).2 z).2 ∧ M1 = M ∧ K1 = K)) 0 0 A := by
  refine met_ofW [(0, .ref (ad 7)), (1, .int p1)] (by decide +kernel) (Nat.le_of_ble_eq_true rfl) rfl ?_
  intro G C hl hR hL hD hcy hA had hsa hr hQ
  subst hD hcy hA had hsa hl
  refine g_iconst C dX8_work_0 (v := 0) (by decide) ?_
  refine g_istore_n C dX8_work_1 (L' := [(2, .int 0), (0, .ref (gad G 7)), (1, .int p1)]) rfl (by rw [hL]; decide) ?_
  have lp2 : ∀ (n i : Nat) (hi : i + n = z), GH G (WX G (sa (sa X 10 (sp_wa (X 10) (X 12) i).1) 12 (sp_wa (X 10) (X 12) i).2) M K) [(0, .ref (gad G 7)), (1, .int p1), (2, .int (nI i))] 0 0 2 [] := by
    intro n
    induction n with
    | zero =>
      intro i hi
      obtain rfl : z = i := by omega
      refine g_iload_n C dX8_work_2 2 rfl ?_
      refine g_aload_n C dX8_work_3 0 rfl ?_
      refine gf_X8_size C tw86 dX8_work_4 ?_
      refine g_topi hz ?_
      refine g_icmp_ge C dX8_work_7 (tgt := 59) (by decide) (fun c_7 => ?_) (fun c_7 => absurd (nI_le (a := z) (b := z) (Nat.le_refl _) (by omega)) c_7)
      refine g_aload_n C dX8_work_59 0 rfl ?_
      refine g_callViW C dX8_work_60 (c_X8_doneOnes _ _ _ _ _ _ _ _ _ z hz hzl) tw918 tw919 tw920 tw3 tw921 (rv_X8 C) rfl ⟨by decide +kernel, by decide +kernel, rfl⟩ ⟨rfl, rfl⟩ (by rw [hR]; decide) (Nat.le_of_ble_eq_true rfl) (by rw [hR]; decide) (fun r_1 X1 M1 K1 h_2 => ?_)
      obtain ⟨er_1, hX1, hM1, hK1⟩ := h_2
      subst X1 M1 K1
      try simp only [sa_ap, si_ap, reduceIte, Nat.reduceEqDiff] at er_1
      refine g_istore_n C dX8_work_63 (L' := [(2, .int r_1), (0, .ref (gad G 7)), (1, .int p1)]) rfl (by rw [hL]; decide) ?_
      refine g_iconst C dX8_work_64 (v := 0) (by decide) ?_
      refine g_istore_n C dX8_work_65 (L' := [(3, .int 0), (2, .int r_1), (0, .ref (gad G 7)), (1, .int p1)]) rfl (by rw [hL]; decide) ?_
      have lp66 : ∀ (n i : Nat) (a : Int32) (hi : i + n = z) (ha : a = sp_on (sp_wa (X 10) (X 12) z).2 z), GH G (WX G (sa (sa X 10 (sp_wb (sp_on (sp_wa (X 10) (X 12) z).2 z) p1 (X 8) (X 9) (X 11) (sp_wa (X 10) (X 12) z).1 (sp_wa (X 10) (X 12) z).2 i).1) 12 (sp_wb (sp_on (sp_wa (X 10) (X 12) z).2 z) p1 (X 8) (X 9) (X 11) (sp_wa (X 10) (X 12) z).1 (sp_wa (X 10) (X 12) z).2 i).2) M K) [(0, .ref (gad G 7)), (1, .int p1), (2, .int a), (3, .int (nI i))] 0 0 66 [] := by
        intro n
        induction n with
        | zero =>
          intro i a hi ha
          obtain rfl : z = i := by omega
          refine g_iload_n C dX8_work_66 3 rfl ?_
          refine g_aload_n C dX8_work_67 0 rfl ?_
          refine gf_X8_size C tw86 dX8_work_68 ?_
          refine g_topi hz ?_
          refine g_icmp_ge C dX8_work_71 (tgt := 134) (by decide) (fun c_71 => ?_) (fun c_71 => absurd (nI_le (a := z) (b := z) (Nat.le_refl _) (by omega)) c_71)
          refine g_vretW C hr hQ (Nat.le_refl _) (Nat.le_refl _) dX8_work_134 ?_
          exact ⟨(by first | with_reducible rfl | (subst er_1 ha; first | with_reducible rfl | (simp only [sa_ap, si_ap, si_sa, sa_sa, sa_3, sa_4, sa_5, sa_6, sa_7, sa_8, sp_wa, sp_wb, up_us, up_up]; done) | (simp [sa_ap, si_ap, si_sa, sa_sa, sa_3, sa_4, sa_5, sa_6, sa_7, sa_8, sp_wa, sp_wb, up_us, up_up]; done) | rfl)), rfl, rfl⟩
        | succ n ih =>
          intro i a hi ha
          refine g_iload_n C dX8_work_66 3 rfl ?_
          refine g_aload_n C dX8_work_67 0 rfl ?_
          refine gf_X8_size C tw86 dX8_work_68 ?_
          refine g_topi hz ?_
          refine g_icmp_ge C dX8_work_71 (tgt := 134) (by decide) (fun c_71 => absurd c_71 (nI_ge (a := i) (b := z) (by omega) (by omega))) (fun c_71 => ?_)
          refine g_aload_n C dX8_work_74 0 rfl ?_
          refine gf_X8_state C tw84 dX8_work_75 ?_
          refine g_iload_n C dX8_work_78 3 rfl ?_
          refine al_12 C (by omega) dX8_work_79 ?_
          refine g_bipush C dX8_work_80 (v := 45) (by decide) ?_
          refine g_icmp_ne C dX8_work_82 (tgt := 128) (by decide) (fun c_82 => ?_) (fun c_82 => ?_)
          · try simp only [sa_ap, si_ap, reduceIte, Nat.reduceEqDiff, up_us, lg_cmp_lt, lg_cmp_gt, lg_cmp_le, lg_cmp_ge] at c_82
            refine g_iinc C dX8_work_128 3 rfl (v := nI (i + 1)) (nI_1 _) (L' := [(3, .int (nI (i + 1))), (0, .ref (gad G 7)), (1, .int p1), (2, .int a)]) rfl (by rw [hL]; decide) ?_
            refine g_goto C dX8_work_131 (tgt := 66) (by decide) ?_
            exact g_sub [1, 2, 3, 0] rfl (g_X (by first | with_reducible rfl | (subst er_1 ha; first | with_reducible rfl | (simp only [sa_ap, si_ap, si_sa, sa_sa, sa_3, sa_4, sa_5, sa_6, sa_7, sa_8, sp_wa, sp_wb, up_us, up_up, c_82]; done) | (simp [sa_ap, si_ap, si_sa, sa_sa, sa_3, sa_4, sa_5, sa_6, sa_7, sa_8, sp_wa, sp_wb, up_us, up_up, c_82]; done) | rfl)) (ih (i + 1) _ (by omega) (by first | with_reducible rfl | (subst er_1 ha; first | with_reducible rfl | (simp only [sa_ap, si_ap, si_sa, sa_sa, sa_3, sa_4, sa_5, sa_6, sa_7, sa_8, sp_wa, sp_wb, up_us, up_up, c_82]; done) | (simp [sa_ap, si_ap, si_sa, sa_sa, sa_3, sa_4, sa_5, sa_6, sa_7, sa_8, sp_wa, sp_wb, up_us, up_up, c_82]; done) | rfl))))
          · try simp only [sa_ap, si_ap, reduceIte, Nat.reduceEqDiff, up_us, lg_cmp_lt, lg_cmp_gt, lg_cmp_le, lg_cmp_ge] at c_82
            refine g_aload_n C dX8_work_85 0 rfl ?_
            refine gf_X8_from C tw80 dX8_work_86 ?_
            refine g_iload_n C dX8_work_89 3 rfl ?_
            refine al_8 C (by omega) dX8_work_90 ?_
            refine g_iload_n C dX8_work_91 1 rfl ?_
            refine g_icmp_gt C dX8_work_92 (tgt := 128) (by decide) (fun c_92 => ?_) (fun c_92 => ?_)
            · try simp only [sa_ap, si_ap, reduceIte, Nat.reduceEqDiff, up_us, lg_cmp_lt, lg_cmp_gt, lg_cmp_le, lg_cmp_ge] at c_92
              refine g_iinc C dX8_work_128 3 rfl (v := nI (i + 1)) (nI_1 _) (L' := [(3, .int (nI (i + 1))), (0, .ref (gad G 7)), (1, .int p1), (2, .int a)]) rfl (by rw [hL]; decide) ?_
              refine g_goto C dX8_work_131 (tgt := 66) (by decide) ?_
              exact g_sub [1, 2, 3, 0] rfl (g_X (by first | with_reducible rfl | (subst er_1 ha; first | with_reducible rfl | (simp only [sa_ap, si_ap, si_sa, sa_sa, sa_3, sa_4, sa_5, sa_6, sa_7, sa_8, sp_wa, sp_wb, up_us, up_up, c_82, c_92]; done) | (simp [sa_ap, si_ap, si_sa, sa_sa, sa_3, sa_4, sa_5, sa_6, sa_7, sa_8, sp_wa, sp_wb, up_us, up_up, c_82, c_92]; done) | rfl)) (ih (i + 1) _ (by omega) (by first | with_reducible rfl | (subst er_1 ha; first | with_reducible rfl | (simp only [sa_ap, si_ap, si_sa, sa_sa, sa_3, sa_4, sa_5, sa_6, sa_7, sa_8, sp_wa, sp_wb, up_us, up_up, c_82, c_92]; done) | (simp [sa_ap, si_ap, si_sa, sa_sa, sa_3, sa_4, sa_5, sa_6, sa_7, sa_8, sp_wa, sp_wb, up_us, up_up, c_82, c_92]; done) | rfl))))
            · try simp only [sa_ap, si_ap, reduceIte, Nat.reduceEqDiff, up_us, lg_cmp_lt, lg_cmp_gt, lg_cmp_le, lg_cmp_ge] at c_92
              refine g_aload_n C dX8_work_95 0 rfl ?_
              refine gf_X8_behind C tw83 dX8_work_96 ?_
              refine g_iload_n C dX8_work_99 3 rfl ?_
              refine al_11 C (by omega) dX8_work_100 ?_
              refine g_iload_n C dX8_work_101 2 rfl ?_
              refine g_iconst C dX8_work_102 (v := (-1)) (by decide) ?_
              refine g_ixor C dX8_work_103 ?_
              refine g_topi (y := nt _) rfl ?_
              refine g_iand C dX8_work_104 ?_
              refine g_if_ne C dX8_work_105 (tgt := 128) (by decide) (fun c_105 => ?_) (fun c_105 => ?_)
              · try simp only [sa_ap, si_ap, reduceIte, Nat.reduceEqDiff, up_us, lg_cmp_lt, lg_cmp_gt, lg_cmp_le, lg_cmp_ge] at c_105
                refine g_iinc C dX8_work_128 3 rfl (v := nI (i + 1)) (nI_1 _) (L' := [(3, .int (nI (i + 1))), (0, .ref (gad G 7)), (1, .int p1), (2, .int a)]) rfl (by rw [hL]; decide) ?_
                refine g_goto C dX8_work_131 (tgt := 66) (by decide) ?_
                exact g_sub [1, 2, 3, 0] rfl (g_X (by first | with_reducible rfl | (subst er_1 ha; first | with_reducible rfl | (simp only [sa_ap, si_ap, si_sa, sa_sa, sa_3, sa_4, sa_5, sa_6, sa_7, sa_8, sp_wa, sp_wb, up_us, up_up, c_82, c_92, c_105]; done) | (simp [sa_ap, si_ap, si_sa, sa_sa, sa_3, sa_4, sa_5, sa_6, sa_7, sa_8, sp_wa, sp_wb, up_us, up_up, c_82, c_92, c_105]; done) | rfl)) (ih (i + 1) _ (by omega) (by first | with_reducible rfl | (subst er_1 ha; first | with_reducible rfl | (simp only [sa_ap, si_ap, si_sa, sa_sa, sa_3, sa_4, sa_5, sa_6, sa_7, sa_8, sp_wa, sp_wb, up_us, up_up, c_82, c_92, c_105]; done) | (simp [sa_ap, si_ap, si_sa, sa_sa, sa_3, sa_4, sa_5, sa_6, sa_7, sa_8, sp_wa, sp_wb, up_us, up_up, c_82, c_92, c_105]; done) | rfl))))
              · try simp only [sa_ap, si_ap, reduceIte, Nat.reduceEqDiff, up_us, lg_cmp_lt, lg_cmp_gt, lg_cmp_le, lg_cmp_ge] at c_105
                refine g_aload_n C dX8_work_108 0 rfl ?_
                refine gf_X8_state C tw84 dX8_work_109 ?_
                refine g_iload_n C dX8_work_112 3 rfl ?_
                refine g_bipush C dX8_work_113 (v := 114) (by decide) ?_
                refine as_12 C ⟨by decide, by decide⟩ (by omega) dX8_work_115 ?_
                refine g_aload_n C dX8_work_116 0 rfl ?_
                refine gf_X8_left C tw82 dX8_work_117 ?_
                refine g_iload_n C dX8_work_120 3 rfl ?_
                refine g_aload_n C dX8_work_121 0 rfl ?_
                refine gf_X8_seconds C tw81 dX8_work_122 ?_
                refine g_iload_n C dX8_work_125 3 rfl ?_
                refine al_9 C (by omega) dX8_work_126 ?_
                refine as_10 C (by omega) dX8_work_127 ?_
                refine g_iinc C dX8_work_128 3 rfl (v := nI (i + 1)) (nI_1 _) (L' := [(3, .int (nI (i + 1))), (0, .ref (gad G 7)), (1, .int p1), (2, .int a)]) rfl (by rw [hL]; decide) ?_
                refine g_goto C dX8_work_131 (tgt := 66) (by decide) ?_
                exact g_sub [1, 2, 3, 0] rfl (g_X (by first | with_reducible rfl | (subst er_1 ha; first | with_reducible rfl | (simp only [sa_ap, si_ap, si_sa, sa_sa, sa_3, sa_4, sa_5, sa_6, sa_7, sa_8, sp_wa, sp_wb, up_us, up_up, c_82, c_92, c_105]; done) | (simp [sa_ap, si_ap, si_sa, sa_sa, sa_3, sa_4, sa_5, sa_6, sa_7, sa_8, sp_wa, sp_wb, up_us, up_up, c_82, c_92, c_105]; done) | rfl)) (ih (i + 1) _ (by omega) (by first | with_reducible rfl | (subst er_1 ha; first | with_reducible rfl | (simp only [sa_ap, si_ap, si_sa, sa_sa, sa_3, sa_4, sa_5, sa_6, sa_7, sa_8, sp_wa, sp_wb, up_us, up_up, c_82, c_92, c_105]; done) | (simp [sa_ap, si_ap, si_sa, sa_sa, sa_3, sa_4, sa_5, sa_6, sa_7, sa_8, sp_wa, sp_wb, up_us, up_up, c_82, c_92, c_105]; done) | rfl))))
      exact g_sub [2, 3, 1, 0] rfl (g_X (by simp [sp_wb]) (lp66 (z) 0 _ (by omega) (by first | with_reducible rfl | (subst er_1; first | with_reducible rfl | (simp only [sa_ap, si_ap, si_sa, sa_sa, sa_3, sa_4, sa_5, sa_6, sa_7, sa_8, sp_wa, sp_wb, up_us, up_up]; done) | (simp [sa_ap, si_ap, si_sa, sa_sa, sa_3, sa_4, sa_5, sa_6, sa_7, sa_8, sp_wa, sp_wb, up_us, up_up]; done) | rfl))))
    | succ n ih =>
      intro i hi
      refine g_iload_n C dX8_work_2 2 rfl ?_
      refine g_aload_n C dX8_work_3 0 rfl ?_
      refine gf_X8_size C tw86 dX8_work_4 ?_
      refine g_topi hz ?_
      refine g_icmp_ge C dX8_work_7 (tgt := 59) (by decide) (fun c_7 => absurd c_7 (nI_ge (a := i) (b := z) (by omega) (by omega))) (fun c_7 => ?_)
      refine g_aload_n C dX8_work_10 0 rfl ?_
      refine gf_X8_state C tw84 dX8_work_11 ?_
      refine g_iload_n C dX8_work_14 2 rfl ?_
      refine al_12 C (by omega) dX8_work_15 ?_
      refine g_bipush C dX8_work_16 (v := 114) (by decide) ?_
      refine g_icmp_ne C dX8_work_18 (tgt := 53) (by decide) (fun c_18 => ?_) (fun c_18 => ?_)
      · try simp only [sa_ap, si_ap, reduceIte, Nat.reduceEqDiff, up_us, lg_cmp_lt, lg_cmp_gt, lg_cmp_le, lg_cmp_ge] at c_18
        refine g_iinc C dX8_work_53 2 rfl (v := nI (i + 1)) (nI_1 _) (L' := [(2, .int (nI (i + 1))), (0, .ref (gad G 7)), (1, .int p1)]) rfl (by rw [hL]; decide) ?_
        refine g_goto C dX8_work_56 (tgt := 2) (by decide) ?_
        exact g_sub [1, 2, 0] rfl (g_X (by first | with_reducible rfl | (first | with_reducible rfl | (simp only [sa_ap, si_ap, si_sa, sa_sa, sa_3, sa_4, sa_5, sa_6, sa_7, sa_8, sp_wa, sp_wb, up_us, up_up, c_18]; done) | (simp [sa_ap, si_ap, si_sa, sa_sa, sa_3, sa_4, sa_5, sa_6, sa_7, sa_8, sp_wa, sp_wb, up_us, up_up, c_18]; done) | rfl)) (ih (i + 1) (by omega)))
      · try simp only [sa_ap, si_ap, reduceIte, Nat.reduceEqDiff, up_us, lg_cmp_lt, lg_cmp_gt, lg_cmp_le, lg_cmp_ge] at c_18
        refine g_aload_n C dX8_work_21 0 rfl ?_
        refine gf_X8_left C tw82 dX8_work_22 ?_
        refine g_iload_n C dX8_work_25 2 rfl ?_
        refine g_dup2 C dX8_work_26 rfl rfl ?_
        refine al_10 C (by omega) dX8_work_27 ?_
        refine g_iconst C dX8_work_28 (v := 1) (by decide) ?_
        refine g_isub C dX8_work_29 ?_
        refine as_10 C (by omega) dX8_work_30 ?_
        refine g_aload_n C dX8_work_31 0 rfl ?_
        refine gf_X8_state C tw84 dX8_work_32 ?_
        refine g_iload_n C dX8_work_35 2 rfl ?_
        refine g_aload_n C dX8_work_36 0 rfl ?_
        refine gf_X8_left C tw82 dX8_work_37 ?_
        refine g_iload_n C dX8_work_40 2 rfl ?_
        refine al_10 C (by omega) dX8_work_41 ?_
        refine g_if_le C dX8_work_42 (tgt := 50) (by decide) (fun c_42 => ?_) (fun c_42 => ?_)
        · try simp only [sa_ap, si_ap, reduceIte, Nat.reduceEqDiff, up_us, lg_cmp_lt, lg_cmp_gt, lg_cmp_le, lg_cmp_ge] at c_42
          refine g_bipush C dX8_work_50 (v := 101) (by decide) ?_
          refine as_12 C ⟨by decide, by decide⟩ (by omega) dX8_work_52 ?_
          refine g_iinc C dX8_work_53 2 rfl (v := nI (i + 1)) (nI_1 _) (L' := [(2, .int (nI (i + 1))), (0, .ref (gad G 7)), (1, .int p1)]) rfl (by rw [hL]; decide) ?_
          refine g_goto C dX8_work_56 (tgt := 2) (by decide) ?_
          exact g_sub [1, 2, 0] rfl (g_X (by first | with_reducible rfl | (first | with_reducible rfl | (simp only [sa_ap, si_ap, si_sa, sa_sa, sa_3, sa_4, sa_5, sa_6, sa_7, sa_8, sp_wa, sp_wb, up_us, up_up, c_18, c_42]; done) | (simp [sa_ap, si_ap, si_sa, sa_sa, sa_3, sa_4, sa_5, sa_6, sa_7, sa_8, sp_wa, sp_wb, up_us, up_up, c_18, c_42]; done) | rfl)) (ih (i + 1) (by omega)))
        · try simp only [sa_ap, si_ap, reduceIte, Nat.reduceEqDiff, up_us, lg_cmp_lt, lg_cmp_gt, lg_cmp_le, lg_cmp_ge] at c_42
          refine g_bipush C dX8_work_45 (v := 114) (by decide) ?_
          refine g_goto C dX8_work_47 (tgt := 52) (by decide) ?_
          refine as_12 C ⟨by decide, by decide⟩ (by omega) dX8_work_52 ?_
          refine g_iinc C dX8_work_53 2 rfl (v := nI (i + 1)) (nI_1 _) (L' := [(2, .int (nI (i + 1))), (0, .ref (gad G 7)), (1, .int p1)]) rfl (by rw [hL]; decide) ?_
          refine g_goto C dX8_work_56 (tgt := 2) (by decide) ?_
          exact g_sub [1, 2, 0] rfl (g_X (by first | with_reducible rfl | (first | with_reducible rfl | (simp only [sa_ap, si_ap, si_sa, sa_sa, sa_3, sa_4, sa_5, sa_6, sa_7, sa_8, sp_wa, sp_wb, up_us, up_up, c_18, c_42]; done) | (simp [sa_ap, si_ap, si_sa, sa_sa, sa_3, sa_4, sa_5, sa_6, sa_7, sa_8, sp_wa, sp_wb, up_us, up_up, c_18, c_42]; done) | rfl)) (ih (i + 1) (by omega)))
  exact g_sub [1, 2, 0] rfl (g_X (by simp [sp_wa, sa_self]) (lp2 (z) 0 (by omega)))

set_option maxHeartbeats 400000 in
set_option maxRecDepth 100000 in
/-- find.find -/
theorem c_X5_find (l : Launch) (D : va_G) (cy : Nat → ClassId) (A : Nat → Prop) (ad sad : Nat → Nat) (X M : XF) (K : KF) (p1 : Int32) (z : Nat) (hz : X 103 0 = nI z) (hzl : z ≤ 6) : Met l yX5_find (wsA yX5_find cX5_find 3 (some .int)) ({ frames := 0, cells := 0, slots := 0, locals := 0 }) (PcW D cy A ad sad X M K [.ref (ad 13), .int p1]) (QiW D cy A ad (fun r X1 M1 K1 => r = mk_find (X 14) p1 z 0 ∧ X1 = X ∧ M1 = M ∧ K1 = K)) 0 0 A := by
  refine met_ofW [(0, .ref (ad 13)), (1, .int p1)] (by decide +kernel) (Nat.le_of_ble_eq_true rfl) rfl ?_
  intro G C hl hR hL hD hcy hA had hsa hr hQ
  subst hD hcy hA had hsa hl
  refine g_iconst C dX5_find_0 (v := 0) (by decide) ?_
  refine g_istore_n C dX5_find_1 (L' := [(2, .int 0), (0, .ref (gad G 13)), (1, .int p1)]) rfl (by rw [hL]; decide) ?_
  have lp2 : ∀ (n i : Nat) (hi : i + n = z) (hf : mk_find (X 14) p1 z 0 = mk_find (X 14) p1 n i), GH G (WX G X M K) [(0, .ref (gad G 13)), (1, .int p1), (2, .int (nI i))] 0 0 2 [] := by
    intro n
    induction n with
    | zero =>
      intro i hi hf
      obtain rfl : z = i := by omega
      refine g_iload_n C dX5_find_2 2 rfl ?_
      refine g_aload_n C dX5_find_3 0 rfl ?_
      refine gf_X5_size C tw112 dX5_find_4 ?_
      refine g_topi hz ?_
      refine g_icmp_ge C dX5_find_7 (tgt := 28) (by decide) (fun c_7 => ?_) (fun c_7 => absurd (nI_le (a := z) (b := z) (Nat.le_refl _) (by omega)) c_7)
      refine g_iconst C dX5_find_28 (v := (-1)) (by decide) ?_
      refine g_iretW C hr hQ (Nat.le_refl _) (Nat.le_refl _) dX5_find_29 ?_
      exact ⟨by rw [hf]; first | with_reducible rfl | (first | with_reducible rfl | (simp only [sa_ap, si_ap, si_sa, sa_sa, sa_3, sa_4, sa_5, sa_6, sa_7, sa_8, mk_find]; done) | (simp [sa_ap, si_ap, si_sa, sa_sa, sa_3, sa_4, sa_5, sa_6, sa_7, sa_8, mk_find]; done) | rfl), rfl, rfl, rfl⟩
    | succ n ih =>
      intro i hi hf
      refine g_iload_n C dX5_find_2 2 rfl ?_
      refine g_aload_n C dX5_find_3 0 rfl ?_
      refine gf_X5_size C tw112 dX5_find_4 ?_
      refine g_topi hz ?_
      refine g_icmp_ge C dX5_find_7 (tgt := 28) (by decide) (fun c_7 => absurd c_7 (nI_ge (a := i) (b := z) (by omega) (by omega))) (fun c_7 => ?_)
      refine g_aload_n C dX5_find_10 0 rfl ?_
      refine gf_X5_count C tw108 dX5_find_11 ?_
      refine g_iload_n C dX5_find_14 2 rfl ?_
      refine al_14 C (by omega) dX5_find_15 ?_
      refine g_iload_n C dX5_find_16 1 rfl ?_
      refine g_icmp_ne C dX5_find_17 (tgt := 22) (by decide) (fun c_17 => ?_) (fun c_17 => ?_)
      · try simp only [sa_ap, si_ap, reduceIte, Nat.reduceEqDiff, up_us, lg_cmp_lt, lg_cmp_gt, lg_cmp_le, lg_cmp_ge] at c_17
        refine g_iinc C dX5_find_22 2 rfl (v := nI (i + 1)) (nI_1 _) (L' := [(2, .int (nI (i + 1))), (0, .ref (gad G 13)), (1, .int p1)]) rfl (by rw [hL]; decide) ?_
        refine g_goto C dX5_find_25 (tgt := 2) (by decide) ?_
        exact g_sub [1, 2, 0] rfl (ih (i + 1) (by omega) (by rw [hf]; first | with_reducible rfl | (first | with_reducible rfl | (simp only [sa_ap, si_ap, si_sa, sa_sa, sa_3, sa_4, sa_5, sa_6, sa_7, sa_8, mk_find, c_17]; done) | (simp [sa_ap, si_ap, si_sa, sa_sa, sa_3, sa_4, sa_5, sa_6, sa_7, sa_8, mk_find, c_17]; done) | rfl)))
      · try simp only [sa_ap, si_ap, reduceIte, Nat.reduceEqDiff, up_us, lg_cmp_lt, lg_cmp_gt, lg_cmp_le, lg_cmp_ge] at c_17
        refine g_iload_n C dX5_find_20 2 rfl ?_
        refine g_iretW C hr hQ (Nat.le_refl _) (Nat.le_refl _) dX5_find_21 ?_
        exact ⟨by rw [hf]; first | with_reducible rfl | (first | with_reducible rfl | (simp only [sa_ap, si_ap, si_sa, sa_sa, sa_3, sa_4, sa_5, sa_6, sa_7, sa_8, mk_find, c_17]; done) | (simp [sa_ap, si_ap, si_sa, sa_sa, sa_3, sa_4, sa_5, sa_6, sa_7, sa_8, mk_find, c_17]; done) | rfl), rfl, rfl, rfl⟩
  exact g_sub [1, 2, 0] rfl (lp2 (z) 0 (by omega) rfl)

set_option maxHeartbeats 400000 in
set_option maxRecDepth 100000 in
/-- insert.insert -/
theorem c_X5_insert (l : Launch) (D : va_G) (cy : Nat → ClassId) (A : Nat → Prop) (ad sad : Nat → Nat) (X M : XF) (K : KF) (p1 p2 p3 : Int32) (z : Nat) (hz : X 103 0 = nI z) (hzl : z < 6) : Met l yX5_insert (wsA yX5_insert cX5_insert 5 none) ({ frames := 0, cells := 0, slots := 0, locals := 0 }) (PcW D cy A ad sad X M K [.ref (ad 13), .int p1, .int p2, .int p3]) (QvW D cy A ad (fun X1 M1 K1 => X1 = si (sa (sa (sa X 14 (upd (mk_sh p1 z (X 14) (X 15) (X 16)).1.1 (mk_sh p1 z (X 14) (X 15) (X 16)).2 p1)) 15 (upd (mk_sh p1 z (X 14) (X 15) (X 16)).1.2.1 (mk_sh p1 z (X 14) (X 15) (X 16)).2 p2)) 16 (upd (mk_sh p1 z (X 14) (X 15) (X 16)).1.2.2 (mk_sh p1 z (X 14) (X 15) (X 16)).2 p3)) 103 (nI z + 1) ∧ M1 = M ∧ K1 = K)) 0 0 A := by
  refine met_ofW [(0, .ref (ad 13)), (1, .int p1), (2, .int p2), (3, .int p3)] (by decide +kernel) (Nat.le_of_ble_eq_true rfl) rfl ?_
  intro G C hl hR hL hD hcy hA had hsa hr hQ
  subst hD hcy hA had hsa hl
  refine g_aload_n C dX5_insert_0 0 rfl ?_
  refine gf_X5_size C tw112 dX5_insert_1 ?_
  refine g_topi hz ?_
  refine g_istore C dX5_insert_4 (L' := [(4, .int (nI z)), (0, .ref (gad G 13)), (1, .int p1), (2, .int p2), (3, .int p3)]) rfl (by rw [hL]; decide) ?_
  have lp6 : ∀ (n i : Nat) (c : Nat → Int32) (s : Nat → Int32) (t : Nat → Int32) (hi : i + n = z) (hf : mk_sh p1 z (X 14) (X 15) (X 16) = mk_sh p1 n c s t), GH G (WX G (sa (sa (sa X 14 c) 15 s) 16 t) M K) [(0, .ref (gad G 13)), (1, .int p1), (2, .int p2), (3, .int p3), (4, .int (nI n))] 0 0 6 [] := by
    intro n
    induction n with
    | zero =>
      intro i c s t hi hf
      refine g_iload C dX5_insert_6 4 rfl ?_
      refine g_if_le C dX5_insert_8 (tgt := 78) (by decide) (fun c_8 => ?_) (fun c_8 => absurd (by decide) c_8)
      refine g_aload_n C dX5_insert_78 0 rfl ?_
      refine gf_X5_count C tw108 dX5_insert_79 ?_
      refine g_iload C dX5_insert_82 4 rfl ?_
      refine g_iload_n C dX5_insert_84 1 rfl ?_
      refine as_14 C (by omega) dX5_insert_85 ?_
      refine g_aload_n C dX5_insert_86 0 rfl ?_
      refine gf_X5_seconds C tw110 dX5_insert_87 ?_
      refine g_iload C dX5_insert_90 4 rfl ?_
      refine g_iload_n C dX5_insert_92 2 rfl ?_
      refine as_15 C (by omega) dX5_insert_93 ?_
      refine g_aload_n C dX5_insert_94 0 rfl ?_
      refine gf_X5_steps C tw111 dX5_insert_95 ?_
      refine g_iload C dX5_insert_98 4 rfl ?_
      refine g_iload_n C dX5_insert_100 3 rfl ?_
      refine as_16 C (by omega) dX5_insert_101 ?_
      refine g_aload_n C dX5_insert_102 0 rfl ?_
      refine g_dup C dX5_insert_103 rfl ?_
      refine gf_X5_size C tw112 dX5_insert_104 ?_
      refine g_topi hz ?_
      refine g_iconst C dX5_insert_107 (v := 1) (by decide) ?_
      refine g_iadd C dX5_insert_108 ?_
      refine pf_X5_size C tw112 dX5_insert_109 ?_
      refine g_vretW C hr hQ (Nat.le_refl _) (Nat.le_refl _) dX5_insert_112 ?_
      exact ⟨by rw [hf]; first | with_reducible rfl | (first | with_reducible rfl | (simp only [sa_ap, si_ap, si_sa, sa_sa, sa_3, sa_4, sa_5, sa_6, sa_7, sa_8, mk_sh]; done) | (simp [sa_ap, si_ap, si_sa, sa_sa, sa_3, sa_4, sa_5, sa_6, sa_7, sa_8, mk_sh]; done) | rfl), rfl, rfl⟩
    | succ n ih =>
      intro i c s t hi hf
      refine g_iload C dX5_insert_6 4 rfl ?_
      refine g_if_le C dX5_insert_8 (tgt := 78) (by decide) (fun c_8 => absurd c_8 (nI_nle (n := n + 1) (by omega) (by omega))) (fun c_8 => ?_)
      refine g_aload_n C dX5_insert_11 0 rfl ?_
      refine gf_X5_count C tw108 dX5_insert_12 ?_
      refine g_iload C dX5_insert_15 4 rfl ?_
      refine g_iconst C dX5_insert_17 (v := 1) (by decide) ?_
      refine g_isub C dX5_insert_18 ?_
      refine g_topi (nI_pred n) ?_
      refine al_14 C (by omega) dX5_insert_19 ?_
      refine g_iload_n C dX5_insert_20 1 rfl ?_
      refine g_icmp_le C dX5_insert_21 (tgt := 78) (by decide) (fun c_21 => ?_) (fun c_21 => ?_)
      · try simp only [sa_ap, si_ap, reduceIte, Nat.reduceEqDiff, up_us, lg_cmp_lt, lg_cmp_gt, lg_cmp_le, lg_cmp_ge] at c_21
        refine g_aload_n C dX5_insert_78 0 rfl ?_
        refine gf_X5_count C tw108 dX5_insert_79 ?_
        refine g_iload C dX5_insert_82 4 rfl ?_
        refine g_iload_n C dX5_insert_84 1 rfl ?_
        refine as_14 C (by omega) dX5_insert_85 ?_
        refine g_aload_n C dX5_insert_86 0 rfl ?_
        refine gf_X5_seconds C tw110 dX5_insert_87 ?_
        refine g_iload C dX5_insert_90 4 rfl ?_
        refine g_iload_n C dX5_insert_92 2 rfl ?_
        refine as_15 C (by omega) dX5_insert_93 ?_
        refine g_aload_n C dX5_insert_94 0 rfl ?_
        refine gf_X5_steps C tw111 dX5_insert_95 ?_
        refine g_iload C dX5_insert_98 4 rfl ?_
        refine g_iload_n C dX5_insert_100 3 rfl ?_
        refine as_16 C (by omega) dX5_insert_101 ?_
        refine g_aload_n C dX5_insert_102 0 rfl ?_
        refine g_dup C dX5_insert_103 rfl ?_
        refine gf_X5_size C tw112 dX5_insert_104 ?_
        refine g_topi hz ?_
        refine g_iconst C dX5_insert_107 (v := 1) (by decide) ?_
        refine g_iadd C dX5_insert_108 ?_
        refine pf_X5_size C tw112 dX5_insert_109 ?_
        refine g_vretW C hr hQ (Nat.le_refl _) (Nat.le_refl _) dX5_insert_112 ?_
        exact ⟨by rw [hf]; first | with_reducible rfl | (first | with_reducible rfl | (simp only [sa_ap, si_ap, si_sa, sa_sa, sa_3, sa_4, sa_5, sa_6, sa_7, sa_8, mk_sh, c_21]; done) | (simp [sa_ap, si_ap, si_sa, sa_sa, sa_3, sa_4, sa_5, sa_6, sa_7, sa_8, mk_sh, c_21]; done) | rfl), rfl, rfl⟩
      · try simp only [sa_ap, si_ap, reduceIte, Nat.reduceEqDiff, up_us, lg_cmp_lt, lg_cmp_gt, lg_cmp_le, lg_cmp_ge] at c_21
        refine g_aload_n C dX5_insert_24 0 rfl ?_
        refine gf_X5_count C tw108 dX5_insert_25 ?_
        refine g_iload C dX5_insert_28 4 rfl ?_
        refine g_aload_n C dX5_insert_30 0 rfl ?_
        refine gf_X5_count C tw108 dX5_insert_31 ?_
        refine g_iload C dX5_insert_34 4 rfl ?_
        refine g_iconst C dX5_insert_36 (v := 1) (by decide) ?_
        refine g_isub C dX5_insert_37 ?_
        refine g_topi (nI_pred n) ?_
        refine al_14 C (by omega) dX5_insert_38 ?_
        refine as_14 C (by omega) dX5_insert_39 ?_
        refine g_aload_n C dX5_insert_40 0 rfl ?_
        refine gf_X5_seconds C tw110 dX5_insert_41 ?_
        refine g_iload C dX5_insert_44 4 rfl ?_
        refine g_aload_n C dX5_insert_46 0 rfl ?_
        refine gf_X5_seconds C tw110 dX5_insert_47 ?_
        refine g_iload C dX5_insert_50 4 rfl ?_
        refine g_iconst C dX5_insert_52 (v := 1) (by decide) ?_
        refine g_isub C dX5_insert_53 ?_
        refine g_topi (nI_pred n) ?_
        refine al_15 C (by omega) dX5_insert_54 ?_
        refine as_15 C (by omega) dX5_insert_55 ?_
        refine g_aload_n C dX5_insert_56 0 rfl ?_
        refine gf_X5_steps C tw111 dX5_insert_57 ?_
        refine g_iload C dX5_insert_60 4 rfl ?_
        refine g_aload_n C dX5_insert_62 0 rfl ?_
        refine gf_X5_steps C tw111 dX5_insert_63 ?_
        refine g_iload C dX5_insert_66 4 rfl ?_
        refine g_iconst C dX5_insert_68 (v := 1) (by decide) ?_
        refine g_isub C dX5_insert_69 ?_
        refine g_topi (nI_pred n) ?_
        refine al_16 C (by omega) dX5_insert_70 ?_
        refine as_16 C (by omega) dX5_insert_71 ?_
        refine g_iinc C dX5_insert_72 4 rfl (v := nI n) (pk_m1 n) (L' := [(4, .int (nI n)), (0, .ref (gad G 13)), (1, .int p1), (2, .int p2), (3, .int p3)]) rfl (by rw [hL]; decide) ?_
        refine g_goto C dX5_insert_75 (tgt := 6) (by decide) ?_
        exact g_sub [1, 2, 3, 4, 0] rfl (g_X (by first | with_reducible rfl | (first | with_reducible rfl | (simp only [sa_ap, si_ap, si_sa, sa_sa, sa_3, sa_4, sa_5, sa_6, sa_7, sa_8, mk_sh, c_21]; done) | (simp [sa_ap, si_ap, si_sa, sa_sa, sa_3, sa_4, sa_5, sa_6, sa_7, sa_8, mk_sh, c_21]; done) | rfl)) (ih (i + 1) (upd c (n + 1) (c n)) (upd s (n + 1) (s n)) (upd t (n + 1) (t n)) (by omega) (by rw [hf]; first | with_reducible rfl | (first | with_reducible rfl | (simp only [sa_ap, si_ap, si_sa, sa_sa, sa_3, sa_4, sa_5, sa_6, sa_7, sa_8, mk_sh, c_21]; done) | (simp [sa_ap, si_ap, si_sa, sa_sa, sa_3, sa_4, sa_5, sa_6, sa_7, sa_8, mk_sh, c_21]; done) | rfl))))
  exact g_sub [1, 2, 3, 4, 0] rfl (g_X (by simp [sa_self]) (lp6 (z) 0 (X 14) (X 15) (X 16) (by omega) rfl))

set_option maxHeartbeats 400000 in
set_option maxRecDepth 100000 in
/-- keep.keep -/
theorem c_X5_keep (l : Launch) (D : va_G) (cy : Nat → ClassId) (A : Nat → Prop) (ad sad : Nat → Nat) (X M : XF) (K : KF) (p1 p2 : Int32) (z : Nat) (hz : X 103 0 = nI z) (hzl : z ≤ 6) (z8 : Nat) (hz8 : X 102 0 = nI z8) (hzl8 : z8 ≤ 16) : Met l yX5_keep (wsA yX5_keep cX5_keep 5 (some .boolean)) ({ frames := 2, cells := 0, slots := 0, locals := 43 }) (PcW D cy A ad sad X M K [.ref (ad 13), .int p1, .int p2, .ref (ad 7)]) (QiW D cy A ad (fun r X1 M1 K1 => r = mk_keep (X 14) (X 15) (X 16) z p1 p2 (sp_on (X 12) z8) ∧ X1 = X ∧ M1 = M ∧ K1 = K)) 0 0 A := by
  refine met_ofW [(0, .ref (ad 13)), (1, .int p1), (2, .int p2), (3, .ref (ad 7))] (by decide +kernel) (Nat.le_of_ble_eq_true rfl) rfl ?_
  intro G C hl hR hL hD hcy hA had hsa hr hQ
  subst hD hcy hA had hsa hl
  refine g_aload_n C dX5_keep_0 0 rfl ?_
  refine g_iload_n C dX5_keep_1 1 rfl ?_
  refine g_callViW C dX5_keep_2 (c_X5_find _ _ _ _ _ _ _ _ _ _ z hz hzl) tw963 tw617 tw618 tw4 tw619 (rv_X5 C) rfl ⟨by decide +kernel, by decide +kernel, rfl⟩ ⟨rfl, rfl⟩ (by rw [hR]; decide) (Nat.le_of_ble_eq_true rfl) (by rw [hR]; decide) (fun r_1 X1 M1 K1 h_2 => ?_)
  obtain ⟨er_1, hX1, hM1, hK1⟩ := h_2
  subst X1 M1 K1
  try simp only [sa_ap, si_ap, reduceIte, Nat.reduceEqDiff] at er_1
  refine g_istore C dX5_keep_5 (L' := [(4, .int r_1), (0, .ref (gad G 13)), (1, .int p1), (2, .int p2), (3, .ref (gad G 7))]) rfl (by rw [hL]; decide) ?_
  refine g_iload C dX5_keep_7 0 rfl ?_
  refine g_iconst C dX5_keep_9 (v := (-1)) (by decide) ?_
  refine g_icmp_eq C dX5_keep_10 (tgt := 42) (by decide) (fun c_10 => ?_) (fun c_10 => ?_)
  · try simp only [sa_ap, si_ap, reduceIte, Nat.reduceEqDiff, up_us, lg_cmp_lt, lg_cmp_gt, lg_cmp_le, lg_cmp_ge] at c_10
    refine g_iconst C dX5_keep_42 (v := 0) (by decide) ?_
    refine g_zretW C hr (by decide) hQ (Nat.le_refl _) (Nat.le_refl _) dX5_keep_43 ?_
    exact ⟨(by first | with_reducible rfl | (subst er_1; first | with_reducible rfl | (simp only [sa_ap, si_ap, si_sa, sa_sa, sa_3, sa_4, sa_5, sa_6, sa_7, sa_8, mk_keep, c_10]; done) | (simp [sa_ap, si_ap, si_sa, sa_sa, sa_3, sa_4, sa_5, sa_6, sa_7, sa_8, mk_keep, c_10]; done) | rfl)), rfl, rfl, rfl⟩
  · try simp only [sa_ap, si_ap, reduceIte, Nat.reduceEqDiff, up_us, lg_cmp_lt, lg_cmp_gt, lg_cmp_le, lg_cmp_ge] at c_10
    obtain ⟨j, hj, ej⟩ : ∃ j, j < z ∧ mk_find (X 14) p1 z 0 = nI j := by
      rcases mk_find_cases (X 14) p1 z 0 with q | ⟨j, h1, h2, h3, h4⟩
      · exact absurd (er_1.trans q) c_10
      · exact ⟨j, by omega, h3⟩
    have c_ec : (mk_find (X 14) p1 z 0).toNatClampNeg = j := by rw [ej]; exact nI_clamp (by omega)
    refine g_iload_n C dX5_keep_13 3 rfl ?_
    refine g_aload_n C dX5_keep_14 1 rfl ?_
    refine gf_X5_seconds C tw110 dX5_keep_15 ?_
    refine g_iload C dX5_keep_18 0 rfl ?_
    refine g_topi (er_1.trans ej) ?_
    refine al_15 C (by omega) dX5_keep_20 ?_
    refine g_icmp_lt C dX5_keep_21 (tgt := 38) (by decide) (fun c_21 => ?_) (fun c_21 => ?_)
    · try simp only [sa_ap, si_ap, reduceIte, Nat.reduceEqDiff, up_us, lg_cmp_lt, lg_cmp_gt, lg_cmp_le, lg_cmp_ge] at c_21
      refine g_iconst C dX5_keep_38 (v := 1) (by decide) ?_
      refine g_goto C dX5_keep_39 (tgt := 43) (by decide) ?_
      refine g_zretW C hr (by decide) hQ (Nat.le_refl _) (Nat.le_refl _) dX5_keep_43 ?_
      exact ⟨(by first | with_reducible rfl | (subst er_1; first | with_reducible rfl | (simp only [sa_ap, si_ap, si_sa, sa_sa, sa_3, sa_4, sa_5, sa_6, sa_7, sa_8, mk_keep, c_10, c_ec, c_21]; done) | (simp [sa_ap, si_ap, si_sa, sa_sa, sa_3, sa_4, sa_5, sa_6, sa_7, sa_8, mk_keep, c_10, c_ec, c_21]; done) | rfl)), rfl, rfl, rfl⟩
    · try simp only [sa_ap, si_ap, reduceIte, Nat.reduceEqDiff, up_us, lg_cmp_lt, lg_cmp_gt, lg_cmp_le, lg_cmp_ge] at c_21
      refine g_aload_n C dX5_keep_24 4 rfl ?_
      refine g_aload_n C dX5_keep_25 1 rfl ?_
      refine gf_X5_steps C tw111 dX5_keep_26 ?_
      refine g_iload C dX5_keep_29 0 rfl ?_
      refine g_topi (er_1.trans ej) ?_
      refine al_16 C (by omega) dX5_keep_31 ?_
      refine g_callViW C dX5_keep_32 (c_X8_areDone _ _ _ _ _ _ _ _ _ _ z8 hz8 hzl8) tw964 tw965 tw966 tw3 tw967 (rv_X8 C) rfl ⟨by decide +kernel, by decide +kernel, rfl⟩ ⟨rfl, rfl⟩ (by rw [hR]; decide) (Nat.le_of_ble_eq_true rfl) (by rw [hR]; decide) (fun r_3 X1 M1 K1 h_4 => ?_)
      obtain ⟨er_3, hX1, hM1, hK1⟩ := h_4
      subst X1 M1 K1
      try simp only [sa_ap, si_ap, reduceIte, Nat.reduceEqDiff] at er_3
      refine g_if_ne C dX5_keep_35 (tgt := 42) (by decide) (fun c_35 => ?_) (fun c_35 => ?_)
      · try simp only [sa_ap, si_ap, reduceIte, Nat.reduceEqDiff, up_us, lg_cmp_lt, lg_cmp_gt, lg_cmp_le, lg_cmp_ge] at c_35
        refine g_iconst C dX5_keep_42 (v := 0) (by decide) ?_
        refine g_zretW C hr (by decide) hQ (Nat.le_refl _) (Nat.le_refl _) dX5_keep_43 ?_
        exact ⟨(by first | with_reducible rfl | (subst er_1 er_3; first | with_reducible rfl | (simp only [sa_ap, si_ap, si_sa, sa_sa, sa_3, sa_4, sa_5, sa_6, sa_7, sa_8, mk_keep, c_10, c_ec, c_21, c_35]; done) | (simp [sa_ap, si_ap, si_sa, sa_sa, sa_3, sa_4, sa_5, sa_6, sa_7, sa_8, mk_keep, c_10, c_ec, c_21, c_35]; done) | rfl)), rfl, rfl, rfl⟩
      · try simp only [sa_ap, si_ap, reduceIte, Nat.reduceEqDiff, up_us, lg_cmp_lt, lg_cmp_gt, lg_cmp_le, lg_cmp_ge] at c_35
        refine g_iconst C dX5_keep_38 (v := 1) (by decide) ?_
        refine g_goto C dX5_keep_39 (tgt := 43) (by decide) ?_
        refine g_zretW C hr (by decide) hQ (Nat.le_refl _) (Nat.le_refl _) dX5_keep_43 ?_
        exact ⟨(by first | with_reducible rfl | (subst er_1 er_3; first | with_reducible rfl | (simp only [sa_ap, si_ap, si_sa, sa_sa, sa_3, sa_4, sa_5, sa_6, sa_7, sa_8, mk_keep, c_10, c_ec, c_21, c_35]; done) | (simp [sa_ap, si_ap, si_sa, sa_sa, sa_3, sa_4, sa_5, sa_6, sa_7, sa_8, mk_keep, c_10, c_ec, c_21, c_35]; done) | rfl)), rfl, rfl, rfl⟩

set_option maxHeartbeats 400000 in
set_option maxRecDepth 100000 in
/-- countThatCount.countThatCount -/
theorem c_X7_countThatCount (l : Launch) (D : va_G) (cy : Nat → ClassId) (A : Nat → Prop) (ad sad : Nat → Nat) (X M : XF) (K : KF) (k : Nat) (hk : k < 3) : Met l yX7_countThatCount (wsA yX7_countThatCount cX7_countThatCount 4 (some .int)) ({ frames := 0, cells := 0, slots := 0, locals := 0 }) (PcW D cy A ad sad X M K [.ref (ad 17), .int (nI k)]) (QiW D cy A ad (fun r X1 M1 K1 => r = sn_cnt (X 19) k 3 ∧ X1 = X ∧ M1 = M ∧ K1 = K)) 0 0 A := by
  refine met_ofW [(0, .ref (ad 17)), (1, .int (nI k))] (by decide +kernel) (Nat.le_of_ble_eq_true rfl) rfl ?_
  intro G C hl hR hL hD hcy hA had hsa hr hQ
  subst hD hcy hA had hsa hl
  refine g_iconst C dX7_countThatCount_0 (v := 0) (by decide) ?_
  refine g_istore_n C dX7_countThatCount_1 (L' := [(2, .int 0), (0, .ref (gad G 17)), (1, .int (nI k))]) rfl (by rw [hL]; decide) ?_
  refine g_iconst C dX7_countThatCount_2 (v := 3) (by decide) ?_
  refine g_iload_n C dX7_countThatCount_3 2 rfl ?_
  refine g_imul C dX7_countThatCount_4 ?_
  refine g_topi (sn_a k) ?_
  refine g_istore_n C dX7_countThatCount_5 (L' := [(3, .int (nI (3 * k + 0))), (2, .int 0), (0, .ref (gad G 17)), (1, .int (nI k))]) rfl (by rw [hL]; decide) ?_
  have lp6 : ∀ (n i : Nat) (a : Int32) (hi : i + n = 3) (ha : a = sn_cnt (X 19) k i), GH G (WX G X M K) [(0, .ref (gad G 17)), (1, .int (nI k)), (2, .int a), (3, .int (nI (3 * k + i)))] 0 0 6 [] := by
    intro n
    induction n with
    | zero =>
      intro i a hi ha
      obtain rfl : i = 3 := by omega
      refine g_iload_n C dX7_countThatCount_6 3 rfl ?_
      refine g_iconst C dX7_countThatCount_7 (v := 3) (by decide) ?_
      refine g_iload_n C dX7_countThatCount_8 1 rfl ?_
      refine g_imul C dX7_countThatCount_9 ?_
      refine g_iconst C dX7_countThatCount_10 (v := 3) (by decide) ?_
      refine g_iadd C dX7_countThatCount_11 ?_
      refine g_topi (sn_b k) ?_
      refine g_icmp_ge C dX7_countThatCount_12 (tgt := 38) (by decide) (fun c_12 => ?_) (fun c_12 => absurd (nI_le (a := 3 * k + 3) (b := 3 * k + 3) (Nat.le_refl _) (by omega)) c_12)
      refine g_iload_n C dX7_countThatCount_38 2 rfl ?_
      refine g_iretW C hr hQ (Nat.le_refl _) (Nat.le_refl _) dX7_countThatCount_39 ?_
      exact ⟨(by first | with_reducible rfl | (subst ha; first | with_reducible rfl | (simp only [sa_ap, si_ap, si_sa, sa_sa, sa_3, sa_4, sa_5, sa_6, sa_7, sa_8, sn_cnt]; done) | (simp [sa_ap, si_ap, si_sa, sa_sa, sa_3, sa_4, sa_5, sa_6, sa_7, sa_8, sn_cnt]; done) | rfl)), (by first | with_reducible rfl | (subst ha; first | with_reducible rfl | (simp only [sa_ap, si_ap, si_sa, sa_sa, sa_3, sa_4, sa_5, sa_6, sa_7, sa_8, sn_cnt]; done) | (simp [sa_ap, si_ap, si_sa, sa_sa, sa_3, sa_4, sa_5, sa_6, sa_7, sa_8, sn_cnt]; done) | rfl)), rfl, rfl⟩
    | succ n ih =>
      intro i a hi ha
      refine g_iload_n C dX7_countThatCount_6 3 rfl ?_
      refine g_iconst C dX7_countThatCount_7 (v := 3) (by decide) ?_
      refine g_iload_n C dX7_countThatCount_8 1 rfl ?_
      refine g_imul C dX7_countThatCount_9 ?_
      refine g_iconst C dX7_countThatCount_10 (v := 3) (by decide) ?_
      refine g_iadd C dX7_countThatCount_11 ?_
      refine g_topi (sn_b k) ?_
      refine g_icmp_ge C dX7_countThatCount_12 (tgt := 38) (by decide) (fun c_12 => absurd c_12 (nI_ge (a := 3 * k + i) (b := 3 * k + 3) (by omega) (by omega))) (fun c_12 => ?_)
      refine g_iload_n C dX7_countThatCount_15 2 rfl ?_
      refine g_aload_n C dX7_countThatCount_16 0 rfl ?_
      refine gf_X7_isOut C tw131 dX7_countThatCount_17 ?_
      refine g_iload_n C dX7_countThatCount_20 3 rfl ?_
      refine al_19 C (by omega) dX7_countThatCount_21 ?_
      refine g_if_eq C dX7_countThatCount_22 (tgt := 29) (by decide) (fun c_22 => ?_) (fun c_22 => ?_)
      · try simp only [sa_ap, si_ap, reduceIte, Nat.reduceEqDiff, up_us, lg_cmp_lt, lg_cmp_gt, lg_cmp_le, lg_cmp_ge] at c_22
        refine g_iconst C dX7_countThatCount_29 (v := 1) (by decide) ?_
        refine g_iadd C dX7_countThatCount_30 ?_
        refine g_namei (fun v_1 ev_1 => ?_)
        refine g_istore_n C dX7_countThatCount_31 (L' := [(2, .int v_1), (0, .ref (gad G 17)), (1, .int (nI k)), (3, .int (nI (3 * k + i)))]) rfl (by rw [hL]; decide) ?_
        refine g_iinc C dX7_countThatCount_32 3 rfl (v := nI (3 * k + (i + 1))) (nI_1 _) (L' := [(3, .int (nI (3 * k + (i + 1)))), (2, .int v_1), (0, .ref (gad G 17)), (1, .int (nI k))]) rfl (by rw [hL]; decide) ?_
        refine g_goto C dX7_countThatCount_35 (tgt := 6) (by decide) ?_
        exact g_sub [2, 3, 1, 0] rfl (ih (i + 1) _ (by omega) (by first | with_reducible rfl | (subst ha ev_1; first | with_reducible rfl | (simp only [sa_ap, si_ap, si_sa, sa_sa, sa_3, sa_4, sa_5, sa_6, sa_7, sa_8, sn_cnt, c_22]; done) | (simp [sa_ap, si_ap, si_sa, sa_sa, sa_3, sa_4, sa_5, sa_6, sa_7, sa_8, sn_cnt, c_22]; done) | rfl)))
      · try simp only [sa_ap, si_ap, reduceIte, Nat.reduceEqDiff, up_us, lg_cmp_lt, lg_cmp_gt, lg_cmp_le, lg_cmp_ge] at c_22
        refine g_iconst C dX7_countThatCount_25 (v := 0) (by decide) ?_
        refine g_goto C dX7_countThatCount_26 (tgt := 30) (by decide) ?_
        refine g_iadd C dX7_countThatCount_30 ?_
        refine g_namei (fun v_2 ev_2 => ?_)
        refine g_istore_n C dX7_countThatCount_31 (L' := [(2, .int v_2), (0, .ref (gad G 17)), (1, .int (nI k)), (3, .int (nI (3 * k + i)))]) rfl (by rw [hL]; decide) ?_
        refine g_iinc C dX7_countThatCount_32 3 rfl (v := nI (3 * k + (i + 1))) (nI_1 _) (L' := [(3, .int (nI (3 * k + (i + 1)))), (2, .int v_2), (0, .ref (gad G 17)), (1, .int (nI k))]) rfl (by rw [hL]; decide) ?_
        refine g_goto C dX7_countThatCount_35 (tgt := 6) (by decide) ?_
        exact g_sub [2, 3, 1, 0] rfl (ih (i + 1) _ (by omega) (by first | with_reducible rfl | (subst ha ev_2; first | with_reducible rfl | (simp only [sa_ap, si_ap, si_sa, sa_sa, sa_3, sa_4, sa_5, sa_6, sa_7, sa_8, sn_cnt, c_22]; done) | (simp [sa_ap, si_ap, si_sa, sa_sa, sa_3, sa_4, sa_5, sa_6, sa_7, sa_8, sn_cnt, c_22]; done) | rfl)))
  exact g_sub [2, 3, 1, 0] rfl (lp6 (3) 0 _ (by omega) (by first | with_reducible rfl | (first | with_reducible rfl | (simp only [sa_ap, si_ap, si_sa, sa_sa, sa_3, sa_4, sa_5, sa_6, sa_7, sa_8, sn_cnt]; done) | (simp [sa_ap, si_ap, si_sa, sa_sa, sa_3, sa_4, sa_5, sa_6, sa_7, sa_8, sn_cnt]; done) | rfl)))

set_option maxHeartbeats 400000 in
set_option maxRecDepth 100000 in
/-- isLastOfThree.isLastOfThree -/
theorem c_X7_isLastOfThree (l : Launch) (D : va_G) (cy : Nat → ClassId) (A : Nat → Prop) (ad sad : Nat → Nat) (X M : XF) (K : KF) (j : Nat) (hj : j < 9) : Met l yX7_isLastOfThree (wsA yX7_isLastOfThree cX7_isLastOfThree 2 (some .boolean)) ({ frames := 1, cells := 0, slots := 0, locals := 23 }) (PcW D cy A ad sad X M K [.ref (ad 17), .int (nI j)]) (QiW D cy A ad (fun r X1 M1 K1 => r = (if X 19 j = 0 then (if sn_cnt (X 19) (j / 3) 3 = 1 then 1 else 0) else 0) ∧ X1 = X ∧ M1 = M ∧ K1 = K)) 0 0 A := by
  refine met_ofW [(0, .ref (ad 17)), (1, .int (nI j))] (by decide +kernel) (Nat.le_of_ble_eq_true rfl) rfl ?_
  intro G C hl hR hL hD hcy hA had hsa hr hQ
  subst hD hcy hA had hsa hl
  refine g_aload_n C dX7_isLastOfThree_0 0 rfl ?_
  refine gf_X7_isOut C tw131 dX7_isLastOfThree_1 ?_
  refine g_iload_n C dX7_isLastOfThree_4 1 rfl ?_
  refine al_19 C (by omega) dX7_isLastOfThree_5 ?_
  refine g_if_ne C dX7_isLastOfThree_6 (tgt := 24) (by decide) (fun c_6 => ?_) (fun c_6 => ?_)
  · try simp only [sa_ap, si_ap, reduceIte, Nat.reduceEqDiff, up_us, lg_cmp_lt, lg_cmp_gt, lg_cmp_le, lg_cmp_ge] at c_6
    refine g_iconst C dX7_isLastOfThree_24 (v := 0) (by decide) ?_
    refine g_zretW C hr (by decide) hQ (Nat.le_refl _) (Nat.le_refl _) dX7_isLastOfThree_25 ?_
    exact ⟨(by first | with_reducible rfl | (first | with_reducible rfl | (simp only [sa_ap, si_ap, si_sa, sa_sa, sa_3, sa_4, sa_5, sa_6, sa_7, sa_8, c_6]; done) | (simp [sa_ap, si_ap, si_sa, sa_sa, sa_3, sa_4, sa_5, sa_6, sa_7, sa_8, c_6]; done) | rfl)), (by first | with_reducible rfl | (first | with_reducible rfl | (simp only [sa_ap, si_ap, si_sa, sa_sa, sa_3, sa_4, sa_5, sa_6, sa_7, sa_8, c_6]; done) | (simp [sa_ap, si_ap, si_sa, sa_sa, sa_3, sa_4, sa_5, sa_6, sa_7, sa_8, c_6]; done) | rfl)), rfl, rfl⟩
  · try simp only [sa_ap, si_ap, reduceIte, Nat.reduceEqDiff, up_us, lg_cmp_lt, lg_cmp_gt, lg_cmp_le, lg_cmp_ge] at c_6
    refine g_aload_n C dX7_isLastOfThree_9 0 rfl ?_
    refine g_iload_n C dX7_isLastOfThree_10 1 rfl ?_
    refine g_iconst C dX7_isLastOfThree_11 (v := 3) (by decide) ?_
    refine g_idiv C dX7_isLastOfThree_12 (by decide) ?_
    refine g_topi (sn_d hj) ?_
    refine g_callViW C dX7_isLastOfThree_13 (c_X7_countThatCount _ _ _ _ _ _ _ _ _ (j / 3) (by omega)) tw653 tw654 tw655 tw5 tw656 (rv_X7 C) rfl ⟨by decide +kernel, by decide +kernel, rfl⟩ ⟨rfl, rfl⟩ (by rw [hR]; decide) (Nat.le_of_ble_eq_true rfl) (by rw [hR]; decide) (fun r_1 X1 M1 K1 h_2 => ?_)
    obtain ⟨er_1, hX1, hM1, hK1⟩ := h_2
    subst X1 M1 K1
    try simp only [sa_ap, si_ap, reduceIte, Nat.reduceEqDiff] at er_1
    refine g_iconst C dX7_isLastOfThree_16 (v := 1) (by decide) ?_
    refine g_icmp_ne C dX7_isLastOfThree_17 (tgt := 24) (by decide) (fun c_17 => ?_) (fun c_17 => ?_)
    · try simp only [sa_ap, si_ap, reduceIte, Nat.reduceEqDiff, up_us, lg_cmp_lt, lg_cmp_gt, lg_cmp_le, lg_cmp_ge] at c_17
      refine g_iconst C dX7_isLastOfThree_24 (v := 0) (by decide) ?_
      refine g_zretW C hr (by decide) hQ (Nat.le_refl _) (Nat.le_refl _) dX7_isLastOfThree_25 ?_
      exact ⟨(by first | with_reducible rfl | (subst er_1; first | with_reducible rfl | (simp only [sa_ap, si_ap, si_sa, sa_sa, sa_3, sa_4, sa_5, sa_6, sa_7, sa_8, c_6, c_17]; done) | (simp [sa_ap, si_ap, si_sa, sa_sa, sa_3, sa_4, sa_5, sa_6, sa_7, sa_8, c_6, c_17]; done) | rfl)), (by first | with_reducible rfl | (subst er_1; first | with_reducible rfl | (simp only [sa_ap, si_ap, si_sa, sa_sa, sa_3, sa_4, sa_5, sa_6, sa_7, sa_8, c_6, c_17]; done) | (simp [sa_ap, si_ap, si_sa, sa_sa, sa_3, sa_4, sa_5, sa_6, sa_7, sa_8, c_6, c_17]; done) | rfl)), rfl, rfl⟩
    · try simp only [sa_ap, si_ap, reduceIte, Nat.reduceEqDiff, up_us, lg_cmp_lt, lg_cmp_gt, lg_cmp_le, lg_cmp_ge] at c_17
      refine g_iconst C dX7_isLastOfThree_20 (v := 1) (by decide) ?_
      refine g_goto C dX7_isLastOfThree_21 (tgt := 25) (by decide) ?_
      refine g_zretW C hr (by decide) hQ (Nat.le_refl _) (Nat.le_refl _) dX7_isLastOfThree_25 ?_
      exact ⟨(by first | with_reducible rfl | (subst er_1; first | with_reducible rfl | (simp only [sa_ap, si_ap, si_sa, sa_sa, sa_3, sa_4, sa_5, sa_6, sa_7, sa_8, c_6, c_17]; done) | (simp [sa_ap, si_ap, si_sa, sa_sa, sa_3, sa_4, sa_5, sa_6, sa_7, sa_8, c_6, c_17]; done) | rfl)), (by first | with_reducible rfl | (subst er_1; first | with_reducible rfl | (simp only [sa_ap, si_ap, si_sa, sa_sa, sa_3, sa_4, sa_5, sa_6, sa_7, sa_8, c_6, c_17]; done) | (simp [sa_ap, si_ap, si_sa, sa_sa, sa_3, sa_4, sa_5, sa_6, sa_7, sa_8, c_6, c_17]; done) | rfl)), rfl, rfl⟩

set_option maxHeartbeats 400000 in
set_option maxRecDepth 100000 in
/-- tellTogether.tellTogether -/
theorem c_X7_tellTogether (l : Launch) (D : va_G) (cy : Nat → ClassId) (A : Nat → Prop) (ad sad : Nat → Nat) (X M : XF) (K : KF) (k : Nat) (hk : k < 3) : Met l yX7_tellTogether (wsA yX7_tellTogether cX7_tellTogether 7 (some .int)) ({ frames := 1, cells := 0, slots := 0, locals := 23 }) (PcW D cy A ad sad X M K [.ref (ad 17), .int (nI k)]) (QiW D cy A ad (fun r X1 M1 K1 => r = sn_tell (X 19) (X 18) k ∧ X1 = X ∧ M1 = M ∧ K1 = K)) 0 0 A := by
  refine met_ofW [(0, .ref (ad 17)), (1, .int (nI k))] (by decide +kernel) (Nat.le_of_ble_eq_true rfl) rfl ?_
  intro G C hl hR hL hD hcy hA had hsa hr hQ
  subst hD hcy hA had hsa hl
  refine g_aload_n C dX7_tellTogether_0 0 rfl ?_
  refine g_iload_n C dX7_tellTogether_1 1 rfl ?_
  refine g_callViW C dX7_tellTogether_2 (c_X7_countThatCount _ _ _ _ _ _ _ _ _ k hk) tw653 tw654 tw655 tw5 tw656 (rv_X7 C) rfl ⟨by decide +kernel, by decide +kernel, rfl⟩ ⟨rfl, rfl⟩ (by rw [hR]; decide) (Nat.le_of_ble_eq_true rfl) (by rw [hR]; decide) (fun r_1 X1 M1 K1 h_2 => ?_)
  obtain ⟨er_1, hX1, hM1, hK1⟩ := h_2
  subst X1 M1 K1
  try simp only [sa_ap, si_ap, reduceIte, Nat.reduceEqDiff] at er_1
  refine g_istore_n C dX7_tellTogether_5 (L' := [(2, .int r_1), (0, .ref (gad G 17)), (1, .int (nI k))]) rfl (by rw [hL]; decide) ?_
  refine g_iconst C dX7_tellTogether_6 (v := 0) (by decide) ?_
  refine g_istore_n C dX7_tellTogether_7 (L' := [(3, .int 0), (2, .int r_1), (0, .ref (gad G 17)), (1, .int (nI k))]) rfl (by rw [hL]; decide) ?_
  refine g_sipush C dX7_tellTogether_8 (v := 9999) (by decide) ?_
  refine g_istore C dX7_tellTogether_11 (L' := [(4, .int 9999), (3, .int 0), (2, .int r_1), (0, .ref (gad G 17)), (1, .int (nI k))]) rfl (by rw [hL]; decide) ?_
  refine g_sipush C dX7_tellTogether_13 (v := (-9999)) (by decide) ?_
  refine g_istore C dX7_tellTogether_16 (L' := [(5, .int (-9999)), (4, .int 9999), (3, .int 0), (2, .int r_1), (0, .ref (gad G 17)), (1, .int (nI k))]) rfl (by rw [hL]; decide) ?_
  refine g_iconst C dX7_tellTogether_18 (v := 3) (by decide) ?_
  refine g_iload_n C dX7_tellTogether_19 5 rfl ?_
  refine g_imul C dX7_tellTogether_20 ?_
  refine g_topi (sn_a k) ?_
  refine g_istore C dX7_tellTogether_21 (L' := [(6, .int (nI (3 * k + 0))), (5, .int (-9999)), (4, .int 9999), (3, .int 0), (2, .int r_1), (0, .ref (gad G 17)), (1, .int (nI k))]) rfl (by rw [hL]; decide) ?_
  have lp23 : ∀ (n i : Nat) (q : Int32) (a : Int32) (lo : Int32) (hh : Int32) (hi : i + n = 3) (hq : q = sn_cnt (X 19) k 3) (ha : a = sn_sum (X 19) (X 18) k i) (hlo : lo = sn_lo (X 19) (X 18) k 9999 i) (hhh : hh = sn_hi (X 19) (X 18) k (-9999) i), GH G (WX G X M K) [(0, .ref (gad G 17)), (1, .int (nI k)), (2, .int q), (3, .int a), (4, .int lo), (5, .int hh), (6, .int (nI (3 * k + i)))] 0 0 23 [] := by
    intro n
    induction n with
    | zero =>
      intro i q a lo hh hi hq ha hlo hhh
      obtain rfl : i = 3 := by omega
      refine g_iload C dX7_tellTogether_23 6 rfl ?_
      refine g_iconst C dX7_tellTogether_25 (v := 3) (by decide) ?_
      refine g_iload_n C dX7_tellTogether_26 1 rfl ?_
      refine g_imul C dX7_tellTogether_27 ?_
      refine g_iconst C dX7_tellTogether_28 (v := 3) (by decide) ?_
      refine g_iadd C dX7_tellTogether_29 ?_
      refine g_topi (sn_b k) ?_
      refine g_icmp_ge C dX7_tellTogether_30 (tgt := 87) (by decide) (fun c_30 => ?_) (fun c_30 => absurd (nI_le (a := 3 * k + 3) (b := 3 * k + 3) (Nat.le_refl _) (by omega)) c_30)
      refine g_iload_n C dX7_tellTogether_87 2 rfl ?_
      refine g_iconst C dX7_tellTogether_88 (v := 3) (by decide) ?_
      refine g_icmp_ne C dX7_tellTogether_89 (tgt := 100) (by decide) (fun c_89 => ?_) (fun c_89 => ?_)
      · try simp only [sa_ap, si_ap, reduceIte, Nat.reduceEqDiff, up_us, lg_cmp_lt, lg_cmp_gt, lg_cmp_le, lg_cmp_ge] at c_89
        refine g_iload_n C dX7_tellTogether_100 2 rfl ?_
        refine g_iconst C dX7_tellTogether_101 (v := 2) (by decide) ?_
        refine g_icmp_ne C dX7_tellTogether_102 (tgt := 111) (by decide) (fun c_102 => ?_) (fun c_102 => ?_)
        · try simp only [sa_ap, si_ap, reduceIte, Nat.reduceEqDiff, up_us, lg_cmp_lt, lg_cmp_gt, lg_cmp_le, lg_cmp_ge] at c_102
          refine g_iload_n C dX7_tellTogether_111 3 rfl ?_
          refine g_iretW C hr hQ (Nat.le_refl _) (Nat.le_refl _) dX7_tellTogether_112 ?_
          exact ⟨(by first | with_reducible rfl | (subst er_1 hq ha hlo hhh; first | with_reducible rfl | (simp only [sa_ap, si_ap, si_sa, sa_sa, sa_3, sa_4, sa_5, sa_6, sa_7, sa_8, sn_sum, sn_lo, sn_hi, sn_tell, c_89, c_102]; done) | (simp [sa_ap, si_ap, si_sa, sa_sa, sa_3, sa_4, sa_5, sa_6, sa_7, sa_8, sn_sum, sn_lo, sn_hi, sn_tell, c_89, c_102]; done) | rfl)), (by first | with_reducible rfl | (subst er_1 hq ha hlo hhh; first | with_reducible rfl | (simp only [sa_ap, si_ap, si_sa, sa_sa, sa_3, sa_4, sa_5, sa_6, sa_7, sa_8, sn_sum, sn_lo, sn_hi, sn_tell, c_89, c_102]; done) | (simp [sa_ap, si_ap, si_sa, sa_sa, sa_3, sa_4, sa_5, sa_6, sa_7, sa_8, sn_sum, sn_lo, sn_hi, sn_tell, c_89, c_102]; done) | rfl)), rfl, rfl⟩
        · try simp only [sa_ap, si_ap, reduceIte, Nat.reduceEqDiff, up_us, lg_cmp_lt, lg_cmp_gt, lg_cmp_le, lg_cmp_ge] at c_102
          refine g_iload_n C dX7_tellTogether_105 3 rfl ?_
          refine g_iconst C dX7_tellTogether_106 (v := 2) (by decide) ?_
          refine g_idiv C dX7_tellTogether_107 (by decide) ?_
          refine g_goto C dX7_tellTogether_108 (tgt := 112) (by decide) ?_
          refine g_iretW C hr hQ (Nat.le_refl _) (Nat.le_refl _) dX7_tellTogether_112 ?_
          exact ⟨(by first | with_reducible rfl | (subst er_1 hq ha hlo hhh; first | with_reducible rfl | (simp only [sa_ap, si_ap, si_sa, sa_sa, sa_3, sa_4, sa_5, sa_6, sa_7, sa_8, sn_sum, sn_lo, sn_hi, sn_tell, c_89, c_102]; done) | (simp [sa_ap, si_ap, si_sa, sa_sa, sa_3, sa_4, sa_5, sa_6, sa_7, sa_8, sn_sum, sn_lo, sn_hi, sn_tell, c_89, c_102]; done) | rfl)), (by first | with_reducible rfl | (subst er_1 hq ha hlo hhh; first | with_reducible rfl | (simp only [sa_ap, si_ap, si_sa, sa_sa, sa_3, sa_4, sa_5, sa_6, sa_7, sa_8, sn_sum, sn_lo, sn_hi, sn_tell, c_89, c_102]; done) | (simp [sa_ap, si_ap, si_sa, sa_sa, sa_3, sa_4, sa_5, sa_6, sa_7, sa_8, sn_sum, sn_lo, sn_hi, sn_tell, c_89, c_102]; done) | rfl)), rfl, rfl⟩
      · try simp only [sa_ap, si_ap, reduceIte, Nat.reduceEqDiff, up_us, lg_cmp_lt, lg_cmp_gt, lg_cmp_le, lg_cmp_ge] at c_89
        refine g_iload_n C dX7_tellTogether_92 3 rfl ?_
        refine g_iload C dX7_tellTogether_93 4 rfl ?_
        refine g_isub C dX7_tellTogether_95 ?_
        refine g_iload C dX7_tellTogether_96 5 rfl ?_
        refine g_isub C dX7_tellTogether_98 ?_
        refine g_iretW C hr hQ (Nat.le_refl _) (Nat.le_refl _) dX7_tellTogether_99 ?_
        exact ⟨(by first | with_reducible rfl | (subst er_1 hq ha hlo hhh; first | with_reducible rfl | (simp only [sa_ap, si_ap, si_sa, sa_sa, sa_3, sa_4, sa_5, sa_6, sa_7, sa_8, sn_sum, sn_lo, sn_hi, sn_tell, c_89]; done) | (simp [sa_ap, si_ap, si_sa, sa_sa, sa_3, sa_4, sa_5, sa_6, sa_7, sa_8, sn_sum, sn_lo, sn_hi, sn_tell, c_89]; done) | rfl)), (by first | with_reducible rfl | (subst er_1 hq ha hlo hhh; first | with_reducible rfl | (simp only [sa_ap, si_ap, si_sa, sa_sa, sa_3, sa_4, sa_5, sa_6, sa_7, sa_8, sn_sum, sn_lo, sn_hi, sn_tell, c_89]; done) | (simp [sa_ap, si_ap, si_sa, sa_sa, sa_3, sa_4, sa_5, sa_6, sa_7, sa_8, sn_sum, sn_lo, sn_hi, sn_tell, c_89]; done) | rfl)), rfl, rfl⟩
    | succ n ih =>
      intro i q a lo hh hi hq ha hlo hhh
      refine g_iload C dX7_tellTogether_23 6 rfl ?_
      refine g_iconst C dX7_tellTogether_25 (v := 3) (by decide) ?_
      refine g_iload_n C dX7_tellTogether_26 1 rfl ?_
      refine g_imul C dX7_tellTogether_27 ?_
      refine g_iconst C dX7_tellTogether_28 (v := 3) (by decide) ?_
      refine g_iadd C dX7_tellTogether_29 ?_
      refine g_topi (sn_b k) ?_
      refine g_icmp_ge C dX7_tellTogether_30 (tgt := 87) (by decide) (fun c_30 => absurd c_30 (nI_ge (a := 3 * k + i) (b := 3 * k + 3) (by omega) (by omega))) (fun c_30 => ?_)
      refine g_aload_n C dX7_tellTogether_33 0 rfl ?_
      refine gf_X7_isOut C tw131 dX7_tellTogether_34 ?_
      refine g_iload C dX7_tellTogether_37 6 rfl ?_
      refine al_19 C (by omega) dX7_tellTogether_39 ?_
      refine g_if_ne C dX7_tellTogether_40 (tgt := 81) (by decide) (fun c_40 => ?_) (fun c_40 => ?_)
      · try simp only [sa_ap, si_ap, reduceIte, Nat.reduceEqDiff, up_us, lg_cmp_lt, lg_cmp_gt, lg_cmp_le, lg_cmp_ge] at c_40
        refine g_iinc C dX7_tellTogether_81 6 rfl (v := nI (3 * k + (i + 1))) (nI_1 _) (L' := [(6, .int (nI (3 * k + (i + 1)))), (0, .ref (gad G 17)), (1, .int (nI k)), (2, .int q), (3, .int a), (4, .int lo), (5, .int hh)]) rfl (by rw [hL]; decide) ?_
        refine g_goto C dX7_tellTogether_84 (tgt := 23) (by decide) ?_
        exact g_sub [1, 2, 3, 4, 5, 6, 0] rfl (ih (i + 1) _ _ _ _ (by omega) (by first | with_reducible rfl | (subst er_1 hq ha hlo hhh; first | with_reducible rfl | (simp only [sa_ap, si_ap, si_sa, sa_sa, sa_3, sa_4, sa_5, sa_6, sa_7, sa_8, sn_sum, sn_lo, sn_hi, sn_tell, c_40]; done) | (simp [sa_ap, si_ap, si_sa, sa_sa, sa_3, sa_4, sa_5, sa_6, sa_7, sa_8, sn_sum, sn_lo, sn_hi, sn_tell, c_40]; done) | rfl)) (by first | with_reducible rfl | (subst er_1 hq ha hlo hhh; first | with_reducible rfl | (simp only [sa_ap, si_ap, si_sa, sa_sa, sa_3, sa_4, sa_5, sa_6, sa_7, sa_8, sn_sum, sn_lo, sn_hi, sn_tell, c_40]; done) | (simp [sa_ap, si_ap, si_sa, sa_sa, sa_3, sa_4, sa_5, sa_6, sa_7, sa_8, sn_sum, sn_lo, sn_hi, sn_tell, c_40]; done) | rfl)) (by first | with_reducible rfl | (subst er_1 hq ha hlo hhh; first | with_reducible rfl | (simp only [sa_ap, si_ap, si_sa, sa_sa, sa_3, sa_4, sa_5, sa_6, sa_7, sa_8, sn_sum, sn_lo, sn_hi, sn_tell, c_40]; done) | (simp [sa_ap, si_ap, si_sa, sa_sa, sa_3, sa_4, sa_5, sa_6, sa_7, sa_8, sn_sum, sn_lo, sn_hi, sn_tell, c_40]; done) | rfl)) (by first | with_reducible rfl | (subst er_1 hq ha hlo hhh; first | with_reducible rfl | (simp only [sa_ap, si_ap, si_sa, sa_sa, sa_3, sa_4, sa_5, sa_6, sa_7, sa_8, sn_sum, sn_lo, sn_hi, sn_tell, c_40]; done) | (simp [sa_ap, si_ap, si_sa, sa_sa, sa_3, sa_4, sa_5, sa_6, sa_7, sa_8, sn_sum, sn_lo, sn_hi, sn_tell, c_40]; done) | rfl)))
      · try simp only [sa_ap, si_ap, reduceIte, Nat.reduceEqDiff, up_us, lg_cmp_lt, lg_cmp_gt, lg_cmp_le, lg_cmp_ge] at c_40
        refine g_iload_n C dX7_tellTogether_43 3 rfl ?_
        refine g_aload_n C dX7_tellTogether_44 0 rfl ?_
        refine gf_X7_told C tw129 dX7_tellTogether_45 ?_
        refine g_iload C dX7_tellTogether_48 6 rfl ?_
        refine al_18 C (by omega) dX7_tellTogether_50 ?_
        refine g_iadd C dX7_tellTogether_51 ?_
        refine g_namei (fun v_3 ev_3 => ?_)
        refine g_istore_n C dX7_tellTogether_52 (L' := [(3, .int v_3), (0, .ref (gad G 17)), (1, .int (nI k)), (2, .int q), (4, .int lo), (5, .int hh), (6, .int (nI (3 * k + i)))]) rfl (by rw [hL]; decide) ?_
        refine g_iload C dX7_tellTogether_53 4 rfl ?_
        refine g_aload_n C dX7_tellTogether_55 1 rfl ?_
        refine gf_X7_told C tw129 dX7_tellTogether_56 ?_
        refine g_iload C dX7_tellTogether_59 6 rfl ?_
        refine al_18 C (by omega) dX7_tellTogether_61 ?_
        refine g_min C dX7_tellTogether_62 tw657 (Nat.le_of_ble_eq_true rfl) (by rw [hR]; decide) ?_
        refine g_topi (y := tk_min _ _) rfl ?_
        refine g_namei (fun v_4 ev_4 => ?_)
        refine g_istore C dX7_tellTogether_65 (L' := [(4, .int v_4), (3, .int v_3), (0, .ref (gad G 17)), (1, .int (nI k)), (2, .int q), (5, .int hh), (6, .int (nI (3 * k + i)))]) rfl (by rw [hL]; decide) ?_
        refine g_iload C dX7_tellTogether_67 5 rfl ?_
        refine g_aload_n C dX7_tellTogether_69 2 rfl ?_
        refine gf_X7_told C tw129 dX7_tellTogether_70 ?_
        refine g_iload C dX7_tellTogether_73 6 rfl ?_
        refine al_18 C (by omega) dX7_tellTogether_75 ?_
        refine g_max C dX7_tellTogether_76 tw658 (Nat.le_of_ble_eq_true rfl) (by rw [hR]; decide) ?_
        refine g_topi (y := tk_max _ _) rfl ?_
        refine g_namei (fun v_5 ev_5 => ?_)
        refine g_istore C dX7_tellTogether_79 (L' := [(5, .int v_5), (4, .int v_4), (3, .int v_3), (0, .ref (gad G 17)), (1, .int (nI k)), (2, .int q), (6, .int (nI (3 * k + i)))]) rfl (by rw [hL]; decide) ?_
        refine g_iinc C dX7_tellTogether_81 6 rfl (v := nI (3 * k + (i + 1))) (nI_1 _) (L' := [(6, .int (nI (3 * k + (i + 1)))), (5, .int v_5), (4, .int v_4), (3, .int v_3), (0, .ref (gad G 17)), (1, .int (nI k)), (2, .int q)]) rfl (by rw [hL]; decide) ?_
        refine g_goto C dX7_tellTogether_84 (tgt := 23) (by decide) ?_
        exact g_sub [4, 5, 6, 3, 2, 1, 0] rfl (ih (i + 1) _ _ _ _ (by omega) (by first | with_reducible rfl | (subst er_1 hq ha hlo hhh ev_3 ev_4 ev_5; first | with_reducible rfl | (simp only [sa_ap, si_ap, si_sa, sa_sa, sa_3, sa_4, sa_5, sa_6, sa_7, sa_8, sn_sum, sn_lo, sn_hi, sn_tell, c_40]; done) | (simp [sa_ap, si_ap, si_sa, sa_sa, sa_3, sa_4, sa_5, sa_6, sa_7, sa_8, sn_sum, sn_lo, sn_hi, sn_tell, c_40]; done) | rfl)) (by first | with_reducible rfl | (subst er_1 hq ha hlo hhh ev_3 ev_4 ev_5; first | with_reducible rfl | (simp only [sa_ap, si_ap, si_sa, sa_sa, sa_3, sa_4, sa_5, sa_6, sa_7, sa_8, sn_sum, sn_lo, sn_hi, sn_tell, c_40]; done) | (simp [sa_ap, si_ap, si_sa, sa_sa, sa_3, sa_4, sa_5, sa_6, sa_7, sa_8, sn_sum, sn_lo, sn_hi, sn_tell, c_40]; done) | rfl)) (by first | with_reducible rfl | (subst er_1 hq ha hlo hhh ev_3 ev_4 ev_5; first | with_reducible rfl | (simp only [sa_ap, si_ap, si_sa, sa_sa, sa_3, sa_4, sa_5, sa_6, sa_7, sa_8, sn_sum, sn_lo, sn_hi, sn_tell, c_40]; done) | (simp [sa_ap, si_ap, si_sa, sa_sa, sa_3, sa_4, sa_5, sa_6, sa_7, sa_8, sn_sum, sn_lo, sn_hi, sn_tell, c_40]; done) | rfl)) (by first | with_reducible rfl | (subst er_1 hq ha hlo hhh ev_3 ev_4 ev_5; first | with_reducible rfl | (simp only [sa_ap, si_ap, si_sa, sa_sa, sa_3, sa_4, sa_5, sa_6, sa_7, sa_8, sn_sum, sn_lo, sn_hi, sn_tell, c_40]; done) | (simp [sa_ap, si_ap, si_sa, sa_sa, sa_3, sa_4, sa_5, sa_6, sa_7, sa_8, sn_sum, sn_lo, sn_hi, sn_tell, c_40]; done) | rfl)))
  exact g_sub [5, 6, 4, 3, 2, 1, 0] rfl (lp23 (3) 0 _ _ _ _ (by omega) (by first | with_reducible rfl | (subst er_1; first | with_reducible rfl | (simp only [sa_ap, si_ap, si_sa, sa_sa, sa_3, sa_4, sa_5, sa_6, sa_7, sa_8, sn_sum, sn_lo, sn_hi, sn_tell]; done) | (simp [sa_ap, si_ap, si_sa, sa_sa, sa_3, sa_4, sa_5, sa_6, sa_7, sa_8, sn_sum, sn_lo, sn_hi, sn_tell]; done) | rfl)) (by first | with_reducible rfl | (subst er_1; first | with_reducible rfl | (simp only [sa_ap, si_ap, si_sa, sa_sa, sa_3, sa_4, sa_5, sa_6, sa_7, sa_8, sn_sum, sn_lo, sn_hi, sn_tell]; done) | (simp [sa_ap, si_ap, si_sa, sa_sa, sa_3, sa_4, sa_5, sa_6, sa_7, sa_8, sn_sum, sn_lo, sn_hi, sn_tell]; done) | rfl)) (by first | with_reducible rfl | (subst er_1; first | with_reducible rfl | (simp only [sa_ap, si_ap, si_sa, sa_sa, sa_3, sa_4, sa_5, sa_6, sa_7, sa_8, sn_sum, sn_lo, sn_hi, sn_tell]; done) | (simp [sa_ap, si_ap, si_sa, sa_sa, sa_3, sa_4, sa_5, sa_6, sa_7, sa_8, sn_sum, sn_lo, sn_hi, sn_tell]; done) | rfl)) (by first | with_reducible rfl | (subst er_1; first | with_reducible rfl | (simp only [sa_ap, si_ap, si_sa, sa_sa, sa_3, sa_4, sa_5, sa_6, sa_7, sa_8, sn_sum, sn_lo, sn_hi, sn_tell]; done) | (simp [sa_ap, si_ap, si_sa, sa_sa, sa_3, sa_4, sa_5, sa_6, sa_7, sa_8, sn_sum, sn_lo, sn_hi, sn_tell]; done) | rfl)))

set_option maxHeartbeats 400000 in
set_option maxRecDepth 100000 in
/-- tell.tell -/
theorem c_X3_tell (l : Launch) (D : va_G) (cy : Nat → ClassId) (A : Nat → Prop) (ad sad : Nat → Nat) (X M : XF) (K : KF) (t : Nat) (ht : t < 2 ^ 31) : Met l yX3_tell (wsA yX3_tell cX3_tell 2 none) ({ frames := 0, cells := 0, slots := 0, locals := 0 }) (PcW D cy A ad sad X M K [.ref (ad 20), .int (nI t)]) (QvW D cy A ad (fun X1 M1 K1 => X1 = si (sa X 21 (upd (X 21) (t % 600) (X 21 (t % 600) + 1))) 104 (X 104 0 + 1) ∧ M1 = M ∧ K1 = K)) 0 0 A := by
  refine met_ofW [(0, .ref (ad 20)), (1, .int (nI t))] (by decide +kernel) (Nat.le_of_ble_eq_true rfl) rfl ?_
  intro G C hl hR hL hD hcy hA had hsa hr hQ
  subst hD hcy hA had hsa hl
  refine g_aload_n C dX3_tell_0 0 rfl ?_
  refine gf_X3_inSecond C tw144 dX3_tell_1 ?_
  refine g_iload_n C dX3_tell_4 1 rfl ?_
  refine g_sipush C dX3_tell_5 (v := 600) (by decide) ?_
  refine g_irem C dX3_tell_8 (by decide) ?_
  refine g_topi (lt_rem ht) ?_
  refine g_dup2 C dX3_tell_9 rfl rfl ?_
  refine al_21 C (by omega) dX3_tell_10 ?_
  refine g_iconst C dX3_tell_11 (v := 1) (by decide) ?_
  refine g_iadd C dX3_tell_12 ?_
  refine as_21 C (by omega) dX3_tell_13 ?_
  refine g_aload_n C dX3_tell_14 0 rfl ?_
  refine g_dup C dX3_tell_15 rfl ?_
  refine gf_X3_near C tw145 dX3_tell_16 ?_
  refine g_iconst C dX3_tell_19 (v := 1) (by decide) ?_
  refine g_iadd C dX3_tell_20 ?_
  refine pf_X3_near C tw145 dX3_tell_21 ?_
  refine g_vretW C hr hQ (Nat.le_refl _) (Nat.le_refl _) dX3_tell_24 ?_
  exact ⟨(by first | with_reducible rfl | (first | with_reducible rfl | (simp only [sa_ap, si_ap, si_sa, sa_sa, sa_3, sa_4, sa_5, sa_6, sa_7, sa_8]; done) | (simp [sa_ap, si_ap, si_sa, sa_sa, sa_3, sa_4, sa_5, sa_6, sa_7, sa_8]; done) | rfl)), rfl, rfl⟩

set_option maxHeartbeats 400000 in
set_option maxRecDepth 100000 in
/-- forgetOld.forgetOld -/
theorem c_X3_forgetOld (l : Launch) (D : va_G) (cy : Nat → ClassId) (A : Nat → Prop) (ad sad : Nat → Nat) (X M : XF) (K : KF) (t : Nat) (ht : t < 2 ^ 31) : Met l yX3_forgetOld (wsA yX3_forgetOld cX3_forgetOld 2 none) ({ frames := 0, cells := 0, slots := 0, locals := 0 }) (PcW D cy A ad sad X M K [.ref (ad 20), .int (nI t)]) (QvW D cy A ad (fun X1 M1 K1 => X1 = sa (si X 104 (X 104 0 - X 21 (t % 600))) 21 (upd (X 21) (t % 600) 0) ∧ M1 = M ∧ K1 = K)) 0 0 A := by
  refine met_ofW [(0, .ref (ad 20)), (1, .int (nI t))] (by decide +kernel) (Nat.le_of_ble_eq_true rfl) rfl ?_
  intro G C hl hR hL hD hcy hA had hsa hr hQ
  subst hD hcy hA had hsa hl
  refine g_aload_n C dX3_forgetOld_0 0 rfl ?_
  refine g_dup C dX3_forgetOld_1 rfl ?_
  refine gf_X3_near C tw145 dX3_forgetOld_2 ?_
  refine g_aload_n C dX3_forgetOld_5 0 rfl ?_
  refine gf_X3_inSecond C tw144 dX3_forgetOld_6 ?_
  refine g_iload_n C dX3_forgetOld_9 1 rfl ?_
  refine g_sipush C dX3_forgetOld_10 (v := 600) (by decide) ?_
  refine g_irem C dX3_forgetOld_13 (by decide) ?_
  refine g_topi (lt_rem ht) ?_
  refine al_21 C (by omega) dX3_forgetOld_14 ?_
  refine g_isub C dX3_forgetOld_15 ?_
  refine pf_X3_near C tw145 dX3_forgetOld_16 ?_
  refine g_aload_n C dX3_forgetOld_19 0 rfl ?_
  refine gf_X3_inSecond C tw144 dX3_forgetOld_20 ?_
  refine g_iload_n C dX3_forgetOld_23 1 rfl ?_
  refine g_sipush C dX3_forgetOld_24 (v := 600) (by decide) ?_
  refine g_irem C dX3_forgetOld_27 (by decide) ?_
  refine g_topi (lt_rem ht) ?_
  refine g_iconst C dX3_forgetOld_28 (v := 0) (by decide) ?_
  refine as_21 C (by omega) dX3_forgetOld_29 ?_
  refine g_vretW C hr hQ (Nat.le_refl _) (Nat.le_refl _) dX3_forgetOld_30 ?_
  exact ⟨(by first | with_reducible rfl | (first | with_reducible rfl | (simp only [sa_ap, si_ap, si_sa, sa_sa, sa_3, sa_4, sa_5, sa_6, sa_7, sa_8]; done) | (simp [sa_ap, si_ap, si_sa, sa_sa, sa_3, sa_4, sa_5, sa_6, sa_7, sa_8]; done) | rfl)), rfl, rfl⟩

set_option maxHeartbeats 400000 in
set_option maxRecDepth 100000 in
/-- tell.tell -/
theorem c_X0_tell (l : Launch) (D : va_G) (cy : Nat → ClassId) (A : Nat → Prop) (ad sad : Nat → Nat) (X M : XF) (K : KF) (j : Nat) (hj : j < 8) (p2 p3 : Int32) : Met l yX0_tell (wsA yX0_tell cX0_tell 4 none) ({ frames := 1, cells := 0, slots := 0, locals := 21 }) (PcW D cy A ad sad X M K [.ref (ad 22), .int (nI j), .int p2, .int p3]) (QvW D cy A ad (fun X1 M1 K1 => X1 = sa X 23 (upd (X 23) j (bt_risk p2 p3)) ∧ M1 = M ∧ K1 = K)) 0 0 A := by
  refine met_ofW [(0, .ref (ad 22)), (1, .int (nI j)), (2, .int p2), (3, .int p3)] (by decide +kernel) (Nat.le_of_ble_eq_true rfl) rfl ?_
  intro G C hl hR hL hD hcy hA had hsa hr hQ
  subst hD hcy hA had hsa hl
  refine g_aload_n C dX0_tell_0 0 rfl ?_
  refine gf_X0_riskOf C tw158 dX0_tell_1 ?_
  refine g_iload_n C dX0_tell_4 1 rfl ?_
  refine g_iload_n C dX0_tell_5 2 rfl ?_
  refine g_iconst C dX0_tell_6 (v := 0) (by decide) ?_
  refine g_bipush C dX0_tell_7 (v := 100) (by decide) ?_
  refine g_bipush C dX0_tell_9 (v := 10) (by decide) ?_
  refine g_iload_n C dX0_tell_11 3 rfl ?_
  refine g_imul C dX0_tell_12 ?_
  refine g_isub C dX0_tell_13 ?_
  refine g_max C dX0_tell_14 tw694 (Nat.le_of_ble_eq_true rfl) (by rw [hR]; decide) ?_
  refine g_topi (y := tk_max _ _) rfl ?_
  refine g_imul C dX0_tell_17 ?_
  refine as_23 C (by omega) dX0_tell_18 ?_
  refine g_vretW C hr hQ (Nat.le_refl _) (Nat.le_refl _) dX0_tell_19 ?_
  exact ⟨(by first | with_reducible rfl | (first | with_reducible rfl | (simp only [sa_ap, si_ap, si_sa, sa_sa, sa_3, sa_4, sa_5, sa_6, sa_7, sa_8, bt_risk]; done) | (simp [sa_ap, si_ap, si_sa, sa_sa, sa_3, sa_4, sa_5, sa_6, sa_7, sa_8, bt_risk]; done) | rfl)), rfl, rfl⟩

set_option maxHeartbeats 400000 in
set_option maxRecDepth 100000 in
/-- sumOfRisks.sumOfRisks -/
theorem c_X0_sumOfRisks (l : Launch) (D : va_G) (cy : Nat → ClassId) (A : Nat → Prop) (ad sad : Nat → Nat) (X M : XF) (K : KF) : Met l yX0_sumOfRisks (wsA yX0_sumOfRisks cX0_sumOfRisks 3 (some .int)) ({ frames := 0, cells := 0, slots := 0, locals := 0 }) (PcW D cy A ad sad X M K [.ref (ad 22)]) (QiW D cy A ad (fun r X1 M1 K1 => r = bt_sum (X 23) 8 ∧ X1 = X ∧ M1 = M ∧ K1 = K)) 0 0 A := by
  refine met_ofW [(0, .ref (ad 22))] (by decide +kernel) (Nat.le_of_ble_eq_true rfl) rfl ?_
  intro G C hl hR hL hD hcy hA had hsa hr hQ
  subst hD hcy hA had hsa hl
  refine g_iconst C dX0_sumOfRisks_0 (v := 0) (by decide) ?_
  refine g_istore_n C dX0_sumOfRisks_1 (L' := [(1, .int 0), (0, .ref (gad G 22))]) rfl (by rw [hL]; decide) ?_
  refine g_iconst C dX0_sumOfRisks_2 (v := 0) (by decide) ?_
  refine g_istore_n C dX0_sumOfRisks_3 (L' := [(2, .int 0), (1, .int 0), (0, .ref (gad G 22))]) rfl (by rw [hL]; decide) ?_
  have lp4 : ∀ (n i : Nat) (a : Int32) (hi : i + n = 8) (ha : a = bt_sum (X 23) i), GH G (WX G X M K) [(0, .ref (gad G 22)), (1, .int a), (2, .int (nI i))] 0 0 4 [] := by
    intro n
    induction n with
    | zero =>
      intro i a hi ha
      obtain rfl : i = 8 := by omega
      refine g_iload_n C dX0_sumOfRisks_4 2 rfl ?_
      refine g_bipush C dX0_sumOfRisks_5 (v := 8) (by decide) ?_
      refine g_icmp_ge C dX0_sumOfRisks_7 (tgt := 25) (by decide) (fun c_7 => ?_) (fun c_7 => absurd (nI_le (a := 8) (b := 8) (Nat.le_refl _) (by omega)) c_7)
      refine g_iload_n C dX0_sumOfRisks_25 1 rfl ?_
      refine g_iretW C hr hQ (Nat.le_refl _) (Nat.le_refl _) dX0_sumOfRisks_26 ?_
      exact ⟨(by first | with_reducible rfl | (subst ha; first | with_reducible rfl | (simp only [sa_ap, si_ap, si_sa, sa_sa, sa_3, sa_4, sa_5, sa_6, sa_7, sa_8, bt_sum]; done) | (simp [sa_ap, si_ap, si_sa, sa_sa, sa_3, sa_4, sa_5, sa_6, sa_7, sa_8, bt_sum]; done) | rfl)), (by first | with_reducible rfl | (subst ha; first | with_reducible rfl | (simp only [sa_ap, si_ap, si_sa, sa_sa, sa_3, sa_4, sa_5, sa_6, sa_7, sa_8, bt_sum]; done) | (simp [sa_ap, si_ap, si_sa, sa_sa, sa_3, sa_4, sa_5, sa_6, sa_7, sa_8, bt_sum]; done) | rfl)), rfl, rfl⟩
    | succ n ih =>
      intro i a hi ha
      refine g_iload_n C dX0_sumOfRisks_4 2 rfl ?_
      refine g_bipush C dX0_sumOfRisks_5 (v := 8) (by decide) ?_
      refine g_icmp_ge C dX0_sumOfRisks_7 (tgt := 25) (by decide) (fun c_7 => absurd c_7 (nI_ge (a := i) (b := 8) (by omega) (by omega))) (fun c_7 => ?_)
      refine g_iload_n C dX0_sumOfRisks_10 1 rfl ?_
      refine g_aload_n C dX0_sumOfRisks_11 0 rfl ?_
      refine gf_X0_riskOf C tw158 dX0_sumOfRisks_12 ?_
      refine g_iload_n C dX0_sumOfRisks_15 2 rfl ?_
      refine al_23 C (by omega) dX0_sumOfRisks_16 ?_
      refine g_iadd C dX0_sumOfRisks_17 ?_
      refine g_namei (fun v_1 ev_1 => ?_)
      refine g_istore_n C dX0_sumOfRisks_18 (L' := [(1, .int v_1), (0, .ref (gad G 22)), (2, .int (nI i))]) rfl (by rw [hL]; decide) ?_
      refine g_iinc C dX0_sumOfRisks_19 2 rfl (v := nI (i + 1)) (nI_1 _) (L' := [(2, .int (nI (i + 1))), (1, .int v_1), (0, .ref (gad G 22))]) rfl (by rw [hL]; decide) ?_
      refine g_goto C dX0_sumOfRisks_22 (tgt := 4) (by decide) ?_
      exact g_sub [2, 1, 0] rfl (ih (i + 1) _ (by omega) (by first | with_reducible rfl | (subst ha ev_1; first | with_reducible rfl | (simp only [sa_ap, si_ap, si_sa, sa_sa, sa_3, sa_4, sa_5, sa_6, sa_7, sa_8, bt_sum]; done) | (simp [sa_ap, si_ap, si_sa, sa_sa, sa_3, sa_4, sa_5, sa_6, sa_7, sa_8, bt_sum]; done) | rfl)))
  exact g_sub [2, 1, 0] rfl (lp4 (8) 0 _ (by omega) (by first | with_reducible rfl | (first | with_reducible rfl | (simp only [sa_ap, si_ap, si_sa, sa_sa, sa_3, sa_4, sa_5, sa_6, sa_7, sa_8, bt_sum]; done) | (simp [sa_ap, si_ap, si_sa, sa_sa, sa_3, sa_4, sa_5, sa_6, sa_7, sa_8, bt_sum]; done) | rfl)))

set_option maxHeartbeats 400000 in
set_option maxRecDepth 100000 in
/-- append.append -/
theorem c_X6_append (l : Launch) (D : va_G) (cy : Nat → ClassId) (A : Nat → Prop) (ad sad : Nat → Nat) (X M : XF) (K : KF) (p1 p2 p3 p4 p5 : Int32) (h1 : isCh p1) (z : Nat) (hz : X 105 0 = nI z) (hzl : z < 12) : Met l yX6_append (wsA yX6_append cX6_append 7 (some .int)) ({ frames := 0, cells := 0, slots := 0, locals := 0 }) (PcW D cy A ad sad X M K [.ref (ad 24), .int p1, .int p2, .int p3, .int p4, .int p5]) (QiW D cy A ad (fun r X1 M1 K1 => r = nI z ∧ X1 = si (sa (sa (sa (sa (sa (sa X 25 (upd (X 25) z p1)) 26 (upd (X 26) z p2)) 27 (upd (X 27) z p3)) 28 (upd (X 28) z p4)) 29 (upd (X 29) z p5)) 33 (upd (X 33) z (-1))) 105 (nI z + 1) ∧ M1 = M ∧ K1 = K)) 0 0 A := by
  refine met_ofW [(0, .ref (ad 24)), (1, .int p1), (2, .int p2), (3, .int p3), (4, .int p4), (5, .int p5)] (by decide +kernel) (Nat.le_of_ble_eq_true rfl) rfl ?_
  intro G C hl hR hL hD hcy hA had hsa hr hQ
  subst hD hcy hA had hsa hl
  refine g_aload_n C dX6_append_0 0 rfl ?_
  refine gf_X6_size C tw184 dX6_append_1 ?_
  refine g_topi hz ?_
  refine g_istore C dX6_append_4 (L' := [(6, .int (nI z)), (0, .ref (gad G 24)), (1, .int p1), (2, .int p2), (3, .int p3), (4, .int p4), (5, .int p5)]) rfl (by rw [hL]; decide) ?_
  refine g_aload_n C dX6_append_6 1 rfl ?_
  refine gf_X6_kind C tw168 dX6_append_7 ?_
  refine g_iload C dX6_append_10 0 rfl ?_
  refine g_iload_n C dX6_append_12 2 rfl ?_
  refine as_25 C h1 (by omega) dX6_append_13 ?_
  refine g_aload_n C dX6_append_14 1 rfl ?_
  refine gf_X6_about C tw170 dX6_append_15 ?_
  refine g_iload C dX6_append_18 0 rfl ?_
  refine g_iload_n C dX6_append_20 3 rfl ?_
  refine as_26 C (by omega) dX6_append_21 ?_
  refine g_aload_n C dX6_append_22 1 rfl ?_
  refine gf_X6_least C tw172 dX6_append_23 ?_
  refine g_iload C dX6_append_26 0 rfl ?_
  refine g_iload_n C dX6_append_28 4 rfl ?_
  refine as_27 C (by omega) dX6_append_29 ?_
  refine g_aload_n C dX6_append_30 1 rfl ?_
  refine gf_X6_greatest C tw173 dX6_append_31 ?_
  refine g_iload C dX6_append_34 0 rfl ?_
  refine g_iload C dX6_append_36 5 rfl ?_
  refine as_28 C (by omega) dX6_append_38 ?_
  refine g_aload_n C dX6_append_39 1 rfl ?_
  refine gf_X6_seconds C tw174 dX6_append_40 ?_
  refine g_iload C dX6_append_43 0 rfl ?_
  refine g_iload C dX6_append_45 6 rfl ?_
  refine as_29 C (by omega) dX6_append_47 ?_
  refine g_aload_n C dX6_append_48 1 rfl ?_
  refine gf_X6_waivedBy C tw180 dX6_append_49 ?_
  refine g_iload C dX6_append_52 0 rfl ?_
  refine g_iconst C dX6_append_54 (v := (-1)) (by decide) ?_
  refine as_33 C (by omega) dX6_append_55 ?_
  refine g_aload_n C dX6_append_56 1 rfl ?_
  refine g_dup C dX6_append_57 rfl ?_
  refine gf_X6_size C tw184 dX6_append_58 ?_
  refine g_topi hz ?_
  refine g_iconst C dX6_append_61 (v := 1) (by decide) ?_
  refine g_iadd C dX6_append_62 ?_
  refine pf_X6_size C tw184 dX6_append_63 ?_
  refine g_iload C dX6_append_66 0 rfl ?_
  refine g_iretW C hr hQ (Nat.le_refl _) (Nat.le_refl _) dX6_append_68 ?_
  exact ⟨(by first | with_reducible rfl | (first | with_reducible rfl | (simp only [sa_ap, si_ap, si_sa, sa_sa, sa_3, sa_4, sa_5, sa_6, sa_7, sa_8]; done) | (simp [sa_ap, si_ap, si_sa, sa_sa, sa_3, sa_4, sa_5, sa_6, sa_7, sa_8]; done) | rfl)), (by first | with_reducible rfl | (first | with_reducible rfl | (simp only [sa_ap, si_ap, si_sa, sa_sa, sa_3, sa_4, sa_5, sa_6, sa_7, sa_8]; done) | (simp [sa_ap, si_ap, si_sa, sa_sa, sa_3, sa_4, sa_5, sa_6, sa_7, sa_8]; done) | rfl)), rfl, rfl⟩

set_option maxHeartbeats 400000 in
set_option maxRecDepth 100000 in
/-- holdsBy.holdsBy -/
theorem c_X6_holdsBy (l : Launch) (D : va_G) (cy : Nat → ClassId) (A : Nat → Prop) (ad sad : Nat → Nat) (X M : XF) (K : KF) (j : Nat) (hj : j < 12) (p2 : Int32) : Met l yX6_holdsBy (wsA yX6_holdsBy cX6_holdsBy 3 (some .boolean)) ({ frames := 0, cells := 0, slots := 0, locals := 0 }) (PcW D cy A ad sad X M K [.ref (ad 24), .int (nI j), .int p2]) (QiW D cy A ad (fun r X1 M1 K1 => r = inr (X 27 j) (X 28 j) p2 ∧ X1 = X ∧ M1 = M ∧ K1 = K)) 0 0 A := by
  refine met_ofW [(0, .ref (ad 24)), (1, .int (nI j)), (2, .int p2)] (by decide +kernel) (Nat.le_of_ble_eq_true rfl) rfl ?_
  intro G C hl hR hL hD hcy hA had hsa hr hQ
  subst hD hcy hA had hsa hl
  refine g_iload_n C dX6_holdsBy_0 2 rfl ?_
  refine g_aload_n C dX6_holdsBy_1 0 rfl ?_
  refine gf_X6_least C tw172 dX6_holdsBy_2 ?_
  refine g_iload_n C dX6_holdsBy_5 1 rfl ?_
  refine al_27 C (by omega) dX6_holdsBy_6 ?_
  refine g_icmp_lt C dX6_holdsBy_7 (tgt := 24) (by decide) (fun c_7 => ?_) (fun c_7 => ?_)
  · try simp only [sa_ap, si_ap, reduceIte, Nat.reduceEqDiff, up_us, lg_cmp_lt, lg_cmp_gt, lg_cmp_le, lg_cmp_ge] at c_7
    refine g_iconst C dX6_holdsBy_24 (v := 0) (by decide) ?_
    refine g_zretW C hr (by decide) hQ (Nat.le_refl _) (Nat.le_refl _) dX6_holdsBy_25 ?_
    exact ⟨(by first | with_reducible rfl | (first | with_reducible rfl | (simp only [sa_ap, si_ap, si_sa, sa_sa, sa_3, sa_4, sa_5, sa_6, sa_7, sa_8, inr, c_7]; done) | (simp [sa_ap, si_ap, si_sa, sa_sa, sa_3, sa_4, sa_5, sa_6, sa_7, sa_8, inr, c_7]; done) | rfl)), (by first | with_reducible rfl | (first | with_reducible rfl | (simp only [sa_ap, si_ap, si_sa, sa_sa, sa_3, sa_4, sa_5, sa_6, sa_7, sa_8, inr, c_7]; done) | (simp [sa_ap, si_ap, si_sa, sa_sa, sa_3, sa_4, sa_5, sa_6, sa_7, sa_8, inr, c_7]; done) | rfl)), rfl, rfl⟩
  · try simp only [sa_ap, si_ap, reduceIte, Nat.reduceEqDiff, up_us, lg_cmp_lt, lg_cmp_gt, lg_cmp_le, lg_cmp_ge] at c_7
    refine g_iload_n C dX6_holdsBy_10 2 rfl ?_
    refine g_aload_n C dX6_holdsBy_11 0 rfl ?_
    refine gf_X6_greatest C tw173 dX6_holdsBy_12 ?_
    refine g_iload_n C dX6_holdsBy_15 1 rfl ?_
    refine al_28 C (by omega) dX6_holdsBy_16 ?_
    refine g_icmp_gt C dX6_holdsBy_17 (tgt := 24) (by decide) (fun c_17 => ?_) (fun c_17 => ?_)
    · try simp only [sa_ap, si_ap, reduceIte, Nat.reduceEqDiff, up_us, lg_cmp_lt, lg_cmp_gt, lg_cmp_le, lg_cmp_ge] at c_17
      refine g_iconst C dX6_holdsBy_24 (v := 0) (by decide) ?_
      refine g_zretW C hr (by decide) hQ (Nat.le_refl _) (Nat.le_refl _) dX6_holdsBy_25 ?_
      exact ⟨(by first | with_reducible rfl | (first | with_reducible rfl | (simp only [sa_ap, si_ap, si_sa, sa_sa, sa_3, sa_4, sa_5, sa_6, sa_7, sa_8, inr, c_7, c_17]; done) | (simp [sa_ap, si_ap, si_sa, sa_sa, sa_3, sa_4, sa_5, sa_6, sa_7, sa_8, inr, c_7, c_17]; done) | rfl)), (by first | with_reducible rfl | (first | with_reducible rfl | (simp only [sa_ap, si_ap, si_sa, sa_sa, sa_3, sa_4, sa_5, sa_6, sa_7, sa_8, inr, c_7, c_17]; done) | (simp [sa_ap, si_ap, si_sa, sa_sa, sa_3, sa_4, sa_5, sa_6, sa_7, sa_8, inr, c_7, c_17]; done) | rfl)), rfl, rfl⟩
    · try simp only [sa_ap, si_ap, reduceIte, Nat.reduceEqDiff, up_us, lg_cmp_lt, lg_cmp_gt, lg_cmp_le, lg_cmp_ge] at c_17
      refine g_iconst C dX6_holdsBy_20 (v := 1) (by decide) ?_
      refine g_goto C dX6_holdsBy_21 (tgt := 25) (by decide) ?_
      refine g_zretW C hr (by decide) hQ (Nat.le_refl _) (Nat.le_refl _) dX6_holdsBy_25 ?_
      exact ⟨(by first | with_reducible rfl | (first | with_reducible rfl | (simp only [sa_ap, si_ap, si_sa, sa_sa, sa_3, sa_4, sa_5, sa_6, sa_7, sa_8, inr, c_7, c_17]; done) | (simp [sa_ap, si_ap, si_sa, sa_sa, sa_3, sa_4, sa_5, sa_6, sa_7, sa_8, inr, c_7, c_17]; done) | rfl)), (by first | with_reducible rfl | (first | with_reducible rfl | (simp only [sa_ap, si_ap, si_sa, sa_sa, sa_3, sa_4, sa_5, sa_6, sa_7, sa_8, inr, c_7, c_17]; done) | (simp [sa_ap, si_ap, si_sa, sa_sa, sa_3, sa_4, sa_5, sa_6, sa_7, sa_8, inr, c_7, c_17]; done) | rfl)), rfl, rfl⟩

set_option maxHeartbeats 400000 in
set_option maxRecDepth 100000 in
/-- lookAt.lookAt -/
theorem c_X6_lookAt (l : Launch) (D : va_G) (cy : Nat → ClassId) (A : Nat → Prop) (ad sad : Nat → Nat) (X M : XF) (K : KF) (j : Nat) (hj : j < 12) (p2 : Int32) : Met l yX6_lookAt (wsA yX6_lookAt cX6_lookAt 3 none) ({ frames := 1, cells := 0, slots := 0, locals := 22 }) (PcW D cy A ad sad X M K [.ref (ad 24), .int (nI j), .int p2]) (QvW D cy A ad (fun X1 M1 K1 => X1 = sa (sa X 30 (upd (X 30) j p2)) 31 (upd (X 31) j (if inr (X 27 j) (X 28 j) p2 = 0 then 0 else X 31 j + 1)) ∧ M1 = M ∧ K1 = K)) 0 0 A := by
  refine met_ofW [(0, .ref (ad 24)), (1, .int (nI j)), (2, .int p2)] (by decide +kernel) (Nat.le_of_ble_eq_true rfl) rfl ?_
  intro G C hl hR hL hD hcy hA had hsa hr hQ
  subst hD hcy hA had hsa hl
  refine g_aload_n C dX6_lookAt_0 0 rfl ?_
  refine gf_X6_seen C tw175 dX6_lookAt_1 ?_
  refine g_iload_n C dX6_lookAt_4 1 rfl ?_
  refine g_iload_n C dX6_lookAt_5 2 rfl ?_
  refine as_30 C (by omega) dX6_lookAt_6 ?_
  refine g_aload_n C dX6_lookAt_7 0 rfl ?_
  refine gf_X6_heldFor C tw176 dX6_lookAt_8 ?_
  refine g_iload_n C dX6_lookAt_11 1 rfl ?_
  refine g_aload_n C dX6_lookAt_12 0 rfl ?_
  refine g_iload_n C dX6_lookAt_13 1 rfl ?_
  refine g_iload_n C dX6_lookAt_14 2 rfl ?_
  refine g_callViW C dX6_lookAt_15 (c_X6_holdsBy _ _ _ _ _ _ _ _ _ j hj _) tw930 tw931 tw932 tw8 tw933 (rv_X6 C) rfl ⟨by decide +kernel, by decide +kernel, rfl⟩ ⟨rfl, rfl⟩ (by rw [hR]; decide) (Nat.le_of_ble_eq_true rfl) (by rw [hR]; decide) (fun r_1 X1 M1 K1 h_2 => ?_)
  obtain ⟨er_1, hX1, hM1, hK1⟩ := h_2
  subst X1 M1 K1
  try simp only [sa_ap, si_ap, reduceIte, Nat.reduceEqDiff] at er_1
  refine g_if_eq C dX6_lookAt_18 (tgt := 32) (by decide) (fun c_18 => ?_) (fun c_18 => ?_)
  · try simp only [sa_ap, si_ap, reduceIte, Nat.reduceEqDiff, up_us, lg_cmp_lt, lg_cmp_gt, lg_cmp_le, lg_cmp_ge] at c_18
    refine g_iconst C dX6_lookAt_32 (v := 0) (by decide) ?_
    refine as_31 C (by omega) dX6_lookAt_33 ?_
    refine g_vretW C hr hQ (Nat.le_refl _) (Nat.le_refl _) dX6_lookAt_34 ?_
    exact ⟨(by first | with_reducible rfl | (subst er_1; first | with_reducible rfl | (simp only [sa_ap, si_ap, si_sa, sa_sa, sa_3, sa_4, sa_5, sa_6, sa_7, sa_8, c_18]; done) | (simp [sa_ap, si_ap, si_sa, sa_sa, sa_3, sa_4, sa_5, sa_6, sa_7, sa_8, c_18]; done) | rfl)), rfl, rfl⟩
  · try simp only [sa_ap, si_ap, reduceIte, Nat.reduceEqDiff, up_us, lg_cmp_lt, lg_cmp_gt, lg_cmp_le, lg_cmp_ge] at c_18
    refine g_aload_n C dX6_lookAt_21 0 rfl ?_
    refine gf_X6_heldFor C tw176 dX6_lookAt_22 ?_
    refine g_iload_n C dX6_lookAt_25 1 rfl ?_
    refine al_31 C (by omega) dX6_lookAt_26 ?_
    refine g_iconst C dX6_lookAt_27 (v := 1) (by decide) ?_
    refine g_iadd C dX6_lookAt_28 ?_
    refine g_goto C dX6_lookAt_29 (tgt := 33) (by decide) ?_
    refine as_31 C (by omega) dX6_lookAt_33 ?_
    refine g_vretW C hr hQ (Nat.le_refl _) (Nat.le_refl _) dX6_lookAt_34 ?_
    exact ⟨(by first | with_reducible rfl | (subst er_1; first | with_reducible rfl | (simp only [sa_ap, si_ap, si_sa, sa_sa, sa_3, sa_4, sa_5, sa_6, sa_7, sa_8, c_18]; done) | (simp [sa_ap, si_ap, si_sa, sa_sa, sa_3, sa_4, sa_5, sa_6, sa_7, sa_8, c_18]; done) | rfl)), rfl, rfl⟩

set_option maxHeartbeats 400000 in
set_option maxRecDepth 100000 in
/-- isMetBy.isMetBy -/
theorem c_X6_isMetBy (l : Launch) (D : va_G) (cy : Nat → ClassId) (A : Nat → Prop) (ad sad : Nat → Nat) (X M : XF) (K : KF) (j : Nat) (hj : j < 12) (p2 : Int32) : Met l yX6_isMetBy (wsA yX6_isMetBy cX6_isMetBy 3 (some .boolean)) ({ frames := 1, cells := 0, slots := 0, locals := 22 }) (PcW D cy A ad sad X M K [.ref (ad 24), .int (nI j), .int p2]) (QiW D cy A ad (fun r X1 M1 K1 => r = rl_met (X 31 j) (X 29 j) (X 27 j) (X 28 j) p2 ∧ X1 = X ∧ M1 = M ∧ K1 = K)) 0 0 A := by
  refine met_ofW [(0, .ref (ad 24)), (1, .int (nI j)), (2, .int p2)] (by decide +kernel) (Nat.le_of_ble_eq_true rfl) rfl ?_
  intro G C hl hR hL hD hcy hA had hsa hr hQ
  subst hD hcy hA had hsa hl
  refine g_aload_n C dX6_isMetBy_0 0 rfl ?_
  refine gf_X6_heldFor C tw176 dX6_isMetBy_1 ?_
  refine g_iload_n C dX6_isMetBy_4 1 rfl ?_
  refine al_31 C (by omega) dX6_isMetBy_5 ?_
  refine g_aload_n C dX6_isMetBy_6 0 rfl ?_
  refine gf_X6_seconds C tw174 dX6_isMetBy_7 ?_
  refine g_iload_n C dX6_isMetBy_10 1 rfl ?_
  refine al_29 C (by omega) dX6_isMetBy_11 ?_
  refine g_icmp_lt C dX6_isMetBy_12 (tgt := 28) (by decide) (fun c_12 => ?_) (fun c_12 => ?_)
  · try simp only [sa_ap, si_ap, reduceIte, Nat.reduceEqDiff, up_us, lg_cmp_lt, lg_cmp_gt, lg_cmp_le, lg_cmp_ge] at c_12
    refine g_iconst C dX6_isMetBy_28 (v := 0) (by decide) ?_
    refine g_zretW C hr (by decide) hQ (Nat.le_refl _) (Nat.le_refl _) dX6_isMetBy_29 ?_
    exact ⟨(by first | with_reducible rfl | (first | with_reducible rfl | (simp only [sa_ap, si_ap, si_sa, sa_sa, sa_3, sa_4, sa_5, sa_6, sa_7, sa_8, rl_met, c_12]; done) | (simp [sa_ap, si_ap, si_sa, sa_sa, sa_3, sa_4, sa_5, sa_6, sa_7, sa_8, rl_met, c_12]; done) | rfl)), (by first | with_reducible rfl | (first | with_reducible rfl | (simp only [sa_ap, si_ap, si_sa, sa_sa, sa_3, sa_4, sa_5, sa_6, sa_7, sa_8, rl_met, c_12]; done) | (simp [sa_ap, si_ap, si_sa, sa_sa, sa_3, sa_4, sa_5, sa_6, sa_7, sa_8, rl_met, c_12]; done) | rfl)), rfl, rfl⟩
  · try simp only [sa_ap, si_ap, reduceIte, Nat.reduceEqDiff, up_us, lg_cmp_lt, lg_cmp_gt, lg_cmp_le, lg_cmp_ge] at c_12
    refine g_aload_n C dX6_isMetBy_15 0 rfl ?_
    refine g_iload_n C dX6_isMetBy_16 1 rfl ?_
    refine g_iload_n C dX6_isMetBy_17 2 rfl ?_
    refine g_callViW C dX6_isMetBy_18 (c_X6_holdsBy _ _ _ _ _ _ _ _ _ j hj _) tw930 tw931 tw932 tw8 tw933 (rv_X6 C) rfl ⟨by decide +kernel, by decide +kernel, rfl⟩ ⟨rfl, rfl⟩ (by rw [hR]; decide) (Nat.le_of_ble_eq_true rfl) (by rw [hR]; decide) (fun r_1 X1 M1 K1 h_2 => ?_)
    obtain ⟨er_1, hX1, hM1, hK1⟩ := h_2
    subst X1 M1 K1
    try simp only [sa_ap, si_ap, reduceIte, Nat.reduceEqDiff] at er_1
    refine g_if_eq C dX6_isMetBy_21 (tgt := 28) (by decide) (fun c_21 => ?_) (fun c_21 => ?_)
    · try simp only [sa_ap, si_ap, reduceIte, Nat.reduceEqDiff, up_us, lg_cmp_lt, lg_cmp_gt, lg_cmp_le, lg_cmp_ge] at c_21
      refine g_iconst C dX6_isMetBy_28 (v := 0) (by decide) ?_
      refine g_zretW C hr (by decide) hQ (Nat.le_refl _) (Nat.le_refl _) dX6_isMetBy_29 ?_
      exact ⟨(by first | with_reducible rfl | (subst er_1; first | with_reducible rfl | (simp only [sa_ap, si_ap, si_sa, sa_sa, sa_3, sa_4, sa_5, sa_6, sa_7, sa_8, rl_met, c_12, c_21]; done) | (simp [sa_ap, si_ap, si_sa, sa_sa, sa_3, sa_4, sa_5, sa_6, sa_7, sa_8, rl_met, c_12, c_21]; done) | rfl)), (by first | with_reducible rfl | (subst er_1; first | with_reducible rfl | (simp only [sa_ap, si_ap, si_sa, sa_sa, sa_3, sa_4, sa_5, sa_6, sa_7, sa_8, rl_met, c_12, c_21]; done) | (simp [sa_ap, si_ap, si_sa, sa_sa, sa_3, sa_4, sa_5, sa_6, sa_7, sa_8, rl_met, c_12, c_21]; done) | rfl)), rfl, rfl⟩
    · try simp only [sa_ap, si_ap, reduceIte, Nat.reduceEqDiff, up_us, lg_cmp_lt, lg_cmp_gt, lg_cmp_le, lg_cmp_ge] at c_21
      refine g_iconst C dX6_isMetBy_24 (v := 1) (by decide) ?_
      refine g_goto C dX6_isMetBy_25 (tgt := 29) (by decide) ?_
      refine g_zretW C hr (by decide) hQ (Nat.le_refl _) (Nat.le_refl _) dX6_isMetBy_29 ?_
      exact ⟨(by first | with_reducible rfl | (subst er_1; first | with_reducible rfl | (simp only [sa_ap, si_ap, si_sa, sa_sa, sa_3, sa_4, sa_5, sa_6, sa_7, sa_8, rl_met, c_12, c_21]; done) | (simp [sa_ap, si_ap, si_sa, sa_sa, sa_3, sa_4, sa_5, sa_6, sa_7, sa_8, rl_met, c_12, c_21]; done) | rfl)), (by first | with_reducible rfl | (subst er_1; first | with_reducible rfl | (simp only [sa_ap, si_ap, si_sa, sa_sa, sa_3, sa_4, sa_5, sa_6, sa_7, sa_8, rl_met, c_12, c_21]; done) | (simp [sa_ap, si_ap, si_sa, sa_sa, sa_3, sa_4, sa_5, sa_6, sa_7, sa_8, rl_met, c_12, c_21]; done) | rfl)), rfl, rfl⟩

set_option maxHeartbeats 400000 in
set_option maxRecDepth 100000 in
/-- isWaivedAt.isWaivedAt -/
theorem c_X6_isWaivedAt (l : Launch) (D : va_G) (cy : Nat → ClassId) (A : Nat → Prop) (ad sad : Nat → Nat) (X M : XF) (K : KF) (j : Nat) (hj : j < 12) (p2 : Int32) : Met l yX6_isWaivedAt (wsA yX6_isWaivedAt cX6_isWaivedAt 3 (some .boolean)) ({ frames := 0, cells := 0, slots := 0, locals := 0 }) (PcW D cy A ad sad X M K [.ref (ad 24), .int (nI j), .int p2]) (QiW D cy A ad (fun r X1 M1 K1 => r = rl_wv (X 33 j) (X 34 j) p2 ∧ X1 = X ∧ M1 = M ∧ K1 = K)) 0 0 A := by
  refine met_ofW [(0, .ref (ad 24)), (1, .int (nI j)), (2, .int p2)] (by decide +kernel) (Nat.le_of_ble_eq_true rfl) rfl ?_
  intro G C hl hR hL hD hcy hA had hsa hr hQ
  subst hD hcy hA had hsa hl
  refine g_aload_n C dX6_isWaivedAt_0 0 rfl ?_
  refine gf_X6_waivedBy C tw180 dX6_isWaivedAt_1 ?_
  refine g_iload_n C dX6_isWaivedAt_4 1 rfl ?_
  refine al_33 C (by omega) dX6_isWaivedAt_5 ?_
  refine g_iconst C dX6_isWaivedAt_6 (v := (-1)) (by decide) ?_
  refine g_icmp_eq C dX6_isWaivedAt_7 (tgt := 24) (by decide) (fun c_7 => ?_) (fun c_7 => ?_)
  · try simp only [sa_ap, si_ap, reduceIte, Nat.reduceEqDiff, up_us, lg_cmp_lt, lg_cmp_gt, lg_cmp_le, lg_cmp_ge] at c_7
    refine g_iconst C dX6_isWaivedAt_24 (v := 0) (by decide) ?_
    refine g_zretW C hr (by decide) hQ (Nat.le_refl _) (Nat.le_refl _) dX6_isWaivedAt_25 ?_
    exact ⟨(by first | with_reducible rfl | (first | with_reducible rfl | (simp only [sa_ap, si_ap, si_sa, sa_sa, sa_3, sa_4, sa_5, sa_6, sa_7, sa_8, rl_wv, c_7]; done) | (simp [sa_ap, si_ap, si_sa, sa_sa, sa_3, sa_4, sa_5, sa_6, sa_7, sa_8, rl_wv, c_7]; done) | rfl)), (by first | with_reducible rfl | (first | with_reducible rfl | (simp only [sa_ap, si_ap, si_sa, sa_sa, sa_3, sa_4, sa_5, sa_6, sa_7, sa_8, rl_wv, c_7]; done) | (simp [sa_ap, si_ap, si_sa, sa_sa, sa_3, sa_4, sa_5, sa_6, sa_7, sa_8, rl_wv, c_7]; done) | rfl)), rfl, rfl⟩
  · try simp only [sa_ap, si_ap, reduceIte, Nat.reduceEqDiff, up_us, lg_cmp_lt, lg_cmp_gt, lg_cmp_le, lg_cmp_ge] at c_7
    refine g_iload_n C dX6_isWaivedAt_10 2 rfl ?_
    refine g_aload_n C dX6_isWaivedAt_11 0 rfl ?_
    refine gf_X6_waivedUntil C tw182 dX6_isWaivedAt_12 ?_
    refine g_iload_n C dX6_isWaivedAt_15 1 rfl ?_
    refine al_34 C (by omega) dX6_isWaivedAt_16 ?_
    refine g_icmp_gt C dX6_isWaivedAt_17 (tgt := 24) (by decide) (fun c_17 => ?_) (fun c_17 => ?_)
    · try simp only [sa_ap, si_ap, reduceIte, Nat.reduceEqDiff, up_us, lg_cmp_lt, lg_cmp_gt, lg_cmp_le, lg_cmp_ge] at c_17
      refine g_iconst C dX6_isWaivedAt_24 (v := 0) (by decide) ?_
      refine g_zretW C hr (by decide) hQ (Nat.le_refl _) (Nat.le_refl _) dX6_isWaivedAt_25 ?_
      exact ⟨(by first | with_reducible rfl | (first | with_reducible rfl | (simp only [sa_ap, si_ap, si_sa, sa_sa, sa_3, sa_4, sa_5, sa_6, sa_7, sa_8, rl_wv, c_7, c_17]; done) | (simp [sa_ap, si_ap, si_sa, sa_sa, sa_3, sa_4, sa_5, sa_6, sa_7, sa_8, rl_wv, c_7, c_17]; done) | rfl)), (by first | with_reducible rfl | (first | with_reducible rfl | (simp only [sa_ap, si_ap, si_sa, sa_sa, sa_3, sa_4, sa_5, sa_6, sa_7, sa_8, rl_wv, c_7, c_17]; done) | (simp [sa_ap, si_ap, si_sa, sa_sa, sa_3, sa_4, sa_5, sa_6, sa_7, sa_8, rl_wv, c_7, c_17]; done) | rfl)), rfl, rfl⟩
    · try simp only [sa_ap, si_ap, reduceIte, Nat.reduceEqDiff, up_us, lg_cmp_lt, lg_cmp_gt, lg_cmp_le, lg_cmp_ge] at c_17
      refine g_iconst C dX6_isWaivedAt_20 (v := 1) (by decide) ?_
      refine g_goto C dX6_isWaivedAt_21 (tgt := 25) (by decide) ?_
      refine g_zretW C hr (by decide) hQ (Nat.le_refl _) (Nat.le_refl _) dX6_isWaivedAt_25 ?_
      exact ⟨(by first | with_reducible rfl | (first | with_reducible rfl | (simp only [sa_ap, si_ap, si_sa, sa_sa, sa_3, sa_4, sa_5, sa_6, sa_7, sa_8, rl_wv, c_7, c_17]; done) | (simp [sa_ap, si_ap, si_sa, sa_sa, sa_3, sa_4, sa_5, sa_6, sa_7, sa_8, rl_wv, c_7, c_17]; done) | rfl)), (by first | with_reducible rfl | (first | with_reducible rfl | (simp only [sa_ap, si_ap, si_sa, sa_sa, sa_3, sa_4, sa_5, sa_6, sa_7, sa_8, rl_wv, c_7, c_17]; done) | (simp [sa_ap, si_ap, si_sa, sa_sa, sa_3, sa_4, sa_5, sa_6, sa_7, sa_8, rl_wv, c_7, c_17]; done) | rfl)), rfl, rfl⟩

set_option maxHeartbeats 400000 in
set_option maxRecDepth 100000 in
/-- isWaiver.isWaiver -/
theorem c_X6_isWaiver (l : Launch) (D : va_G) (cy : Nat → ClassId) (A : Nat → Prop) (ad sad : Nat → Nat) (X M : XF) (K : KF) (j : Nat) (hj : j < 12) (p2 : Int32) : Met l yX6_isWaiver (wsA yX6_isWaiver cX6_isWaiver 3 (some .boolean)) ({ frames := 0, cells := 0, slots := 0, locals := 0 }) (PcW D cy A ad sad X M K [.ref (ad 24), .int (nI j), .int p2]) (QiW D cy A ad (fun r X1 M1 K1 => r = rl_may (X 32 j) p2 ∧ X1 = X ∧ M1 = M ∧ K1 = K)) 0 0 A := by
  refine met_ofW [(0, .ref (ad 24)), (1, .int (nI j)), (2, .int p2)] (by decide +kernel) (Nat.le_of_ble_eq_true rfl) rfl ?_
  intro G C hl hR hL hD hcy hA had hsa hr hQ
  subst hD hcy hA had hsa hl
  refine g_aload_n C dX6_isWaiver_0 0 rfl ?_
  refine gf_X6_waivers C tw178 dX6_isWaiver_1 ?_
  refine g_iload_n C dX6_isWaiver_4 1 rfl ?_
  refine al_32 C (by omega) dX6_isWaiver_5 ?_
  refine g_iload_n C dX6_isWaiver_6 2 rfl ?_
  refine g_ishr C dX6_isWaiver_7 ?_
  refine g_iconst C dX6_isWaiver_8 (v := 1) (by decide) ?_
  refine g_iand C dX6_isWaiver_9 ?_
  refine g_iconst C dX6_isWaiver_10 (v := 1) (by decide) ?_
  refine g_icmp_ne C dX6_isWaiver_11 (tgt := 18) (by decide) (fun c_11 => ?_) (fun c_11 => ?_)
  · try simp only [sa_ap, si_ap, reduceIte, Nat.reduceEqDiff, up_us, lg_cmp_lt, lg_cmp_gt, lg_cmp_le, lg_cmp_ge] at c_11
    refine g_iconst C dX6_isWaiver_18 (v := 0) (by decide) ?_
    refine g_zretW C hr (by decide) hQ (Nat.le_refl _) (Nat.le_refl _) dX6_isWaiver_19 ?_
    exact ⟨(by first | with_reducible rfl | (first | with_reducible rfl | (simp only [sa_ap, si_ap, si_sa, sa_sa, sa_3, sa_4, sa_5, sa_6, sa_7, sa_8, rl_may, c_11]; done) | (simp [sa_ap, si_ap, si_sa, sa_sa, sa_3, sa_4, sa_5, sa_6, sa_7, sa_8, rl_may, c_11]; done) | rfl)), (by first | with_reducible rfl | (first | with_reducible rfl | (simp only [sa_ap, si_ap, si_sa, sa_sa, sa_3, sa_4, sa_5, sa_6, sa_7, sa_8, rl_may, c_11]; done) | (simp [sa_ap, si_ap, si_sa, sa_sa, sa_3, sa_4, sa_5, sa_6, sa_7, sa_8, rl_may, c_11]; done) | rfl)), rfl, rfl⟩
  · try simp only [sa_ap, si_ap, reduceIte, Nat.reduceEqDiff, up_us, lg_cmp_lt, lg_cmp_gt, lg_cmp_le, lg_cmp_ge] at c_11
    refine g_iconst C dX6_isWaiver_14 (v := 1) (by decide) ?_
    refine g_goto C dX6_isWaiver_15 (tgt := 19) (by decide) ?_
    refine g_zretW C hr (by decide) hQ (Nat.le_refl _) (Nat.le_refl _) dX6_isWaiver_19 ?_
    exact ⟨(by first | with_reducible rfl | (first | with_reducible rfl | (simp only [sa_ap, si_ap, si_sa, sa_sa, sa_3, sa_4, sa_5, sa_6, sa_7, sa_8, rl_may, c_11]; done) | (simp [sa_ap, si_ap, si_sa, sa_sa, sa_3, sa_4, sa_5, sa_6, sa_7, sa_8, rl_may, c_11]; done) | rfl)), (by first | with_reducible rfl | (first | with_reducible rfl | (simp only [sa_ap, si_ap, si_sa, sa_sa, sa_3, sa_4, sa_5, sa_6, sa_7, sa_8, rl_may, c_11]; done) | (simp [sa_ap, si_ap, si_sa, sa_sa, sa_3, sa_4, sa_5, sa_6, sa_7, sa_8, rl_may, c_11]; done) | rfl)), rfl, rfl⟩

set_option maxHeartbeats 400000 in
set_option maxRecDepth 100000 in
/-- firstNotMet.firstNotMet -/
theorem c_X6_firstNotMet (l : Launch) (D : va_G) (cy : Nat → ClassId) (A : Nat → Prop) (ad sad : Nat → Nat) (X M : XF) (K : KF) (p1 : Int32) (z : Nat) (hz : X 105 0 = nI z) (hzl : z ≤ 12) : Met l yX6_firstNotMet (wsA yX6_firstNotMet cX6_firstNotMet 3 (some .int)) ({ frames := 2, cells := 0, slots := 0, locals := 44 }) (PcW D cy A ad sad X M K [.ref (ad 24), .int p1]) (QiW D cy A ad (fun r X1 M1 K1 => r = rl_first (X 31) (X 29) (X 27) (X 28) (X 30) (X 33) (X 34) p1 z 0 ∧ X1 = X ∧ M1 = M ∧ K1 = K)) 0 0 A := by
  refine met_ofW [(0, .ref (ad 24)), (1, .int p1)] (by decide +kernel) (Nat.le_of_ble_eq_true rfl) rfl ?_
  intro G C hl hR hL hD hcy hA had hsa hr hQ
  subst hD hcy hA had hsa hl
  refine g_iconst C dX6_firstNotMet_0 (v := 0) (by decide) ?_
  refine g_istore_n C dX6_firstNotMet_1 (L' := [(2, .int 0), (0, .ref (gad G 24)), (1, .int p1)]) rfl (by rw [hL]; decide) ?_
  have lp2 : ∀ (n i : Nat) (hi : i + n = z) (hf : rl_first (X 31) (X 29) (X 27) (X 28) (X 30) (X 33) (X 34) p1 z 0 = rl_first (X 31) (X 29) (X 27) (X 28) (X 30) (X 33) (X 34) p1 n i), GH G (WX G X M K) [(0, .ref (gad G 24)), (1, .int p1), (2, .int (nI i))] 0 0 2 [] := by
    intro n
    induction n with
    | zero =>
      intro i hi hf
      obtain rfl : z = i := by omega
      refine g_iload_n C dX6_firstNotMet_2 2 rfl ?_
      refine g_aload_n C dX6_firstNotMet_3 0 rfl ?_
      refine gf_X6_size C tw184 dX6_firstNotMet_4 ?_
      refine g_topi hz ?_
      refine g_icmp_ge C dX6_firstNotMet_7 (tgt := 41) (by decide) (fun c_7 => ?_) (fun c_7 => absurd (nI_le (a := z) (b := z) (Nat.le_refl _) (by omega)) c_7)
      refine g_iconst C dX6_firstNotMet_41 (v := (-1)) (by decide) ?_
      refine g_iretW C hr hQ (Nat.le_refl _) (Nat.le_refl _) dX6_firstNotMet_42 ?_
      exact ⟨by rw [hf]; first | with_reducible rfl | (first | with_reducible rfl | (simp only [sa_ap, si_ap, si_sa, sa_sa, sa_3, sa_4, sa_5, sa_6, sa_7, sa_8, rl_first]; done) | (simp [sa_ap, si_ap, si_sa, sa_sa, sa_3, sa_4, sa_5, sa_6, sa_7, sa_8, rl_first]; done) | rfl), rfl, rfl, rfl⟩
    | succ n ih =>
      intro i hi hf
      refine g_iload_n C dX6_firstNotMet_2 2 rfl ?_
      refine g_aload_n C dX6_firstNotMet_3 0 rfl ?_
      refine gf_X6_size C tw184 dX6_firstNotMet_4 ?_
      refine g_topi hz ?_
      refine g_icmp_ge C dX6_firstNotMet_7 (tgt := 41) (by decide) (fun c_7 => absurd c_7 (nI_ge (a := i) (b := z) (by omega) (by omega))) (fun c_7 => ?_)
      refine g_aload_n C dX6_firstNotMet_10 0 rfl ?_
      refine g_iload_n C dX6_firstNotMet_11 2 rfl ?_
      refine g_aload_n C dX6_firstNotMet_12 0 rfl ?_
      refine gf_X6_seen C tw175 dX6_firstNotMet_13 ?_
      refine g_iload_n C dX6_firstNotMet_16 2 rfl ?_
      refine al_30 C (by omega) dX6_firstNotMet_17 ?_
      refine g_callViW C dX6_firstNotMet_18 (c_X6_isMetBy _ _ _ _ _ _ _ _ _ i (by omega) _) tw942 tw943 tw944 tw8 tw945 (rv_X6 C) rfl ⟨by decide +kernel, by decide +kernel, rfl⟩ ⟨rfl, rfl⟩ (by rw [hR]; decide) (Nat.le_of_ble_eq_true rfl) (by rw [hR]; decide) (fun r_1 X1 M1 K1 h_2 => ?_)
      obtain ⟨er_1, hX1, hM1, hK1⟩ := h_2
      subst X1 M1 K1
      try simp only [sa_ap, si_ap, reduceIte, Nat.reduceEqDiff] at er_1
      refine g_if_ne C dX6_firstNotMet_21 (tgt := 35) (by decide) (fun c_21 => ?_) (fun c_21 => ?_)
      · try simp only [sa_ap, si_ap, reduceIte, Nat.reduceEqDiff, up_us, lg_cmp_lt, lg_cmp_gt, lg_cmp_le, lg_cmp_ge] at c_21
        refine g_iinc C dX6_firstNotMet_35 2 rfl (v := nI (i + 1)) (nI_1 _) (L' := [(2, .int (nI (i + 1))), (0, .ref (gad G 24)), (1, .int p1)]) rfl (by rw [hL]; decide) ?_
        refine g_goto C dX6_firstNotMet_38 (tgt := 2) (by decide) ?_
        exact g_sub [1, 2, 0] rfl (ih (i + 1) (by omega) (by rw [hf]; first | with_reducible rfl | (subst er_1; first | with_reducible rfl | (simp only [sa_ap, si_ap, si_sa, sa_sa, sa_3, sa_4, sa_5, sa_6, sa_7, sa_8, rl_first, c_21]; done) | (simp [sa_ap, si_ap, si_sa, sa_sa, sa_3, sa_4, sa_5, sa_6, sa_7, sa_8, rl_first, c_21]; done) | rfl)))
      · try simp only [sa_ap, si_ap, reduceIte, Nat.reduceEqDiff, up_us, lg_cmp_lt, lg_cmp_gt, lg_cmp_le, lg_cmp_ge] at c_21
        refine g_aload_n C dX6_firstNotMet_24 0 rfl ?_
        refine g_iload_n C dX6_firstNotMet_25 2 rfl ?_
        refine g_iload_n C dX6_firstNotMet_26 1 rfl ?_
        refine g_callViW C dX6_firstNotMet_27 (c_X6_isWaivedAt _ _ _ _ _ _ _ _ _ i (by omega) _) tw946 tw733 tw734 tw8 tw735 (rv_X6 C) rfl ⟨by decide +kernel, by decide +kernel, rfl⟩ ⟨rfl, rfl⟩ (by rw [hR]; decide) (Nat.le_of_ble_eq_true rfl) (by rw [hR]; decide) (fun r_3 X1 M1 K1 h_4 => ?_)
        obtain ⟨er_3, hX1, hM1, hK1⟩ := h_4
        subst X1 M1 K1
        try simp only [sa_ap, si_ap, reduceIte, Nat.reduceEqDiff] at er_3
        refine g_if_ne C dX6_firstNotMet_30 (tgt := 35) (by decide) (fun c_30 => ?_) (fun c_30 => ?_)
        · try simp only [sa_ap, si_ap, reduceIte, Nat.reduceEqDiff, up_us, lg_cmp_lt, lg_cmp_gt, lg_cmp_le, lg_cmp_ge] at c_30
          refine g_iinc C dX6_firstNotMet_35 2 rfl (v := nI (i + 1)) (nI_1 _) (L' := [(2, .int (nI (i + 1))), (0, .ref (gad G 24)), (1, .int p1)]) rfl (by rw [hL]; decide) ?_
          refine g_goto C dX6_firstNotMet_38 (tgt := 2) (by decide) ?_
          exact g_sub [1, 2, 0] rfl (ih (i + 1) (by omega) (by rw [hf]; first | with_reducible rfl | (subst er_1 er_3; first | with_reducible rfl | (simp only [sa_ap, si_ap, si_sa, sa_sa, sa_3, sa_4, sa_5, sa_6, sa_7, sa_8, rl_first, c_21, c_30]; done) | (simp [sa_ap, si_ap, si_sa, sa_sa, sa_3, sa_4, sa_5, sa_6, sa_7, sa_8, rl_first, c_21, c_30]; done) | rfl)))
        · try simp only [sa_ap, si_ap, reduceIte, Nat.reduceEqDiff, up_us, lg_cmp_lt, lg_cmp_gt, lg_cmp_le, lg_cmp_ge] at c_30
          refine g_iload_n C dX6_firstNotMet_33 2 rfl ?_
          refine g_iretW C hr hQ (Nat.le_refl _) (Nat.le_refl _) dX6_firstNotMet_34 ?_
          exact ⟨by rw [hf]; first | with_reducible rfl | (subst er_1 er_3; first | with_reducible rfl | (simp only [sa_ap, si_ap, si_sa, sa_sa, sa_3, sa_4, sa_5, sa_6, sa_7, sa_8, rl_first, c_21, c_30]; done) | (simp [sa_ap, si_ap, si_sa, sa_sa, sa_3, sa_4, sa_5, sa_6, sa_7, sa_8, rl_first, c_21, c_30]; done) | rfl), rfl, rfl, rfl⟩
  exact g_sub [1, 2, 0] rfl (lp2 (z) 0 (by omega) rfl)

set_option maxHeartbeats 400000 in
set_option maxRecDepth 100000 in
/-- areGood.areGood -/
theorem c_X6_areGood (l : Launch) (D : va_G) (cy : Nat → ClassId) (A : Nat → Prop) (ad sad : Nat → Nat) (X M : XF) (K : KF) (p1 : Int32) (z : Nat) (hz : X 105 0 = nI z) (hzl : z ≤ 12) : Met l yX6_areGood (wsA yX6_areGood cX6_areGood 3 (some .boolean)) ({ frames := 2, cells := 0, slots := 0, locals := 44 }) (PcW D cy A ad sad X M K [.ref (ad 24), .int p1]) (QiW D cy A ad (fun r X1 M1 K1 => r = rl_good (X 31) (X 29) (X 27) (X 28) (X 30) (X 33) (X 34) (X 32) p1 z 0 ∧ X1 = X ∧ M1 = M ∧ K1 = K)) 0 0 A := by
  refine met_ofW [(0, .ref (ad 24)), (1, .int p1)] (by decide +kernel) (Nat.le_of_ble_eq_true rfl) rfl ?_
  intro G C hl hR hL hD hcy hA had hsa hr hQ
  subst hD hcy hA had hsa hl
  refine g_iconst C dX6_areGood_0 (v := 0) (by decide) ?_
  refine g_istore_n C dX6_areGood_1 (L' := [(2, .int 0), (0, .ref (gad G 24)), (1, .int p1)]) rfl (by rw [hL]; decide) ?_
  have lp2 : ∀ (n i : Nat) (hi : i + n = z) (hf : rl_good (X 31) (X 29) (X 27) (X 28) (X 30) (X 33) (X 34) (X 32) p1 z 0 = rl_good (X 31) (X 29) (X 27) (X 28) (X 30) (X 33) (X 34) (X 32) p1 n i), GH G (WX G X M K) [(0, .ref (gad G 24)), (1, .int p1), (2, .int (nI i))] 0 0 2 [] := by
    intro n
    induction n with
    | zero =>
      intro i hi hf
      obtain rfl : z = i := by omega
      refine g_iload_n C dX6_areGood_2 2 rfl ?_
      refine g_aload_n C dX6_areGood_3 0 rfl ?_
      refine gf_X6_size C tw184 dX6_areGood_4 ?_
      refine g_topi hz ?_
      refine g_icmp_ge C dX6_areGood_7 (tgt := 55) (by decide) (fun c_7 => ?_) (fun c_7 => absurd (nI_le (a := z) (b := z) (Nat.le_refl _) (by omega)) c_7)
      refine g_iconst C dX6_areGood_55 (v := 1) (by decide) ?_
      refine g_zretW C hr (by decide) hQ (Nat.le_refl _) (Nat.le_refl _) dX6_areGood_56 ?_
      exact ⟨by rw [hf]; first | with_reducible rfl | (first | with_reducible rfl | (simp only [sa_ap, si_ap, si_sa, sa_sa, sa_3, sa_4, sa_5, sa_6, sa_7, sa_8, rl_good]; done) | (simp [sa_ap, si_ap, si_sa, sa_sa, sa_3, sa_4, sa_5, sa_6, sa_7, sa_8, rl_good]; done) | rfl), rfl, rfl, rfl⟩
    | succ n ih =>
      intro i hi hf
      refine g_iload_n C dX6_areGood_2 2 rfl ?_
      refine g_aload_n C dX6_areGood_3 0 rfl ?_
      refine gf_X6_size C tw184 dX6_areGood_4 ?_
      refine g_topi hz ?_
      refine g_icmp_ge C dX6_areGood_7 (tgt := 55) (by decide) (fun c_7 => absurd c_7 (nI_ge (a := i) (b := z) (by omega) (by omega))) (fun c_7 => ?_)
      refine g_aload_n C dX6_areGood_10 0 rfl ?_
      refine g_iload_n C dX6_areGood_11 2 rfl ?_
      refine g_aload_n C dX6_areGood_12 0 rfl ?_
      refine gf_X6_seen C tw175 dX6_areGood_13 ?_
      refine g_iload_n C dX6_areGood_16 2 rfl ?_
      refine al_30 C (by omega) dX6_areGood_17 ?_
      refine g_callViW C dX6_areGood_18 (c_X6_isMetBy _ _ _ _ _ _ _ _ _ i (by omega) _) tw942 tw943 tw944 tw8 tw945 (rv_X6 C) rfl ⟨by decide +kernel, by decide +kernel, rfl⟩ ⟨rfl, rfl⟩ (by rw [hR]; decide) (Nat.le_of_ble_eq_true rfl) (by rw [hR]; decide) (fun r_1 X1 M1 K1 h_2 => ?_)
      obtain ⟨er_1, hX1, hM1, hK1⟩ := h_2
      subst X1 M1 K1
      try simp only [sa_ap, si_ap, reduceIte, Nat.reduceEqDiff] at er_1
      refine g_if_ne C dX6_areGood_21 (tgt := 49) (by decide) (fun c_21 => ?_) (fun c_21 => ?_)
      · try simp only [sa_ap, si_ap, reduceIte, Nat.reduceEqDiff, up_us, lg_cmp_lt, lg_cmp_gt, lg_cmp_le, lg_cmp_ge] at c_21
        refine g_iinc C dX6_areGood_49 2 rfl (v := nI (i + 1)) (nI_1 _) (L' := [(2, .int (nI (i + 1))), (0, .ref (gad G 24)), (1, .int p1)]) rfl (by rw [hL]; decide) ?_
        refine g_goto C dX6_areGood_52 (tgt := 2) (by decide) ?_
        exact g_sub [1, 2, 0] rfl (ih (i + 1) (by omega) (by rw [hf]; first | with_reducible rfl | (subst er_1; first | with_reducible rfl | (simp only [sa_ap, si_ap, si_sa, sa_sa, sa_3, sa_4, sa_5, sa_6, sa_7, sa_8, rl_good, c_21]; done) | (simp [sa_ap, si_ap, si_sa, sa_sa, sa_3, sa_4, sa_5, sa_6, sa_7, sa_8, rl_good, c_21]; done) | rfl)))
      · try simp only [sa_ap, si_ap, reduceIte, Nat.reduceEqDiff, up_us, lg_cmp_lt, lg_cmp_gt, lg_cmp_le, lg_cmp_ge] at c_21
        refine g_aload_n C dX6_areGood_24 0 rfl ?_
        refine g_iload_n C dX6_areGood_25 2 rfl ?_
        refine g_iload_n C dX6_areGood_26 1 rfl ?_
        refine g_callViW C dX6_areGood_27 (c_X6_isWaivedAt _ _ _ _ _ _ _ _ _ i (by omega) _) tw946 tw733 tw734 tw8 tw735 (rv_X6 C) rfl ⟨by decide +kernel, by decide +kernel, rfl⟩ ⟨rfl, rfl⟩ (by rw [hR]; decide) (Nat.le_of_ble_eq_true rfl) (by rw [hR]; decide) (fun r_3 X1 M1 K1 h_4 => ?_)
        obtain ⟨er_3, hX1, hM1, hK1⟩ := h_4
        subst X1 M1 K1
        try simp only [sa_ap, si_ap, reduceIte, Nat.reduceEqDiff] at er_3
        refine g_if_eq C dX6_areGood_30 (tgt := 47) (by decide) (fun c_30 => ?_) (fun c_30 => ?_)
        · try simp only [sa_ap, si_ap, reduceIte, Nat.reduceEqDiff, up_us, lg_cmp_lt, lg_cmp_gt, lg_cmp_le, lg_cmp_ge] at c_30
          refine g_iconst C dX6_areGood_47 (v := 0) (by decide) ?_
          refine g_zretW C hr (by decide) hQ (Nat.le_refl _) (Nat.le_refl _) dX6_areGood_48 ?_
          exact ⟨by rw [hf]; first | with_reducible rfl | (subst er_1 er_3; first | with_reducible rfl | (simp only [sa_ap, si_ap, si_sa, sa_sa, sa_3, sa_4, sa_5, sa_6, sa_7, sa_8, rl_good, c_21, c_30]; done) | (simp [sa_ap, si_ap, si_sa, sa_sa, sa_3, sa_4, sa_5, sa_6, sa_7, sa_8, rl_good, c_21, c_30]; done) | rfl), rfl, rfl, rfl⟩
        · try simp only [sa_ap, si_ap, reduceIte, Nat.reduceEqDiff, up_us, lg_cmp_lt, lg_cmp_gt, lg_cmp_le, lg_cmp_ge] at c_30
          refine g_aload_n C dX6_areGood_33 0 rfl ?_
          refine g_iload_n C dX6_areGood_34 2 rfl ?_
          refine g_aload_n C dX6_areGood_35 0 rfl ?_
          refine gf_X6_waivedBy C tw180 dX6_areGood_36 ?_
          refine g_iload_n C dX6_areGood_39 2 rfl ?_
          refine al_33 C (by omega) dX6_areGood_40 ?_
          refine g_callViW C dX6_areGood_41 (c_X6_isWaiver _ _ _ _ _ _ _ _ _ i (by omega) _) tw976 tw719 tw720 tw8 tw721 (rv_X6 C) rfl ⟨by decide +kernel, by decide +kernel, rfl⟩ ⟨rfl, rfl⟩ (by rw [hR]; decide) (Nat.le_of_ble_eq_true rfl) (by rw [hR]; decide) (fun r_5 X1 M1 K1 h_6 => ?_)
          obtain ⟨er_5, hX1, hM1, hK1⟩ := h_6
          subst X1 M1 K1
          try simp only [sa_ap, si_ap, reduceIte, Nat.reduceEqDiff] at er_5
          refine g_if_ne C dX6_areGood_44 (tgt := 49) (by decide) (fun c_44 => ?_) (fun c_44 => ?_)
          · try simp only [sa_ap, si_ap, reduceIte, Nat.reduceEqDiff, up_us, lg_cmp_lt, lg_cmp_gt, lg_cmp_le, lg_cmp_ge] at c_44
            refine g_iinc C dX6_areGood_49 2 rfl (v := nI (i + 1)) (nI_1 _) (L' := [(2, .int (nI (i + 1))), (0, .ref (gad G 24)), (1, .int p1)]) rfl (by rw [hL]; decide) ?_
            refine g_goto C dX6_areGood_52 (tgt := 2) (by decide) ?_
            exact g_sub [1, 2, 0] rfl (ih (i + 1) (by omega) (by rw [hf]; first | with_reducible rfl | (subst er_1 er_3 er_5; first | with_reducible rfl | (simp only [sa_ap, si_ap, si_sa, sa_sa, sa_3, sa_4, sa_5, sa_6, sa_7, sa_8, rl_good, c_21, c_30, c_44]; done) | (simp [sa_ap, si_ap, si_sa, sa_sa, sa_3, sa_4, sa_5, sa_6, sa_7, sa_8, rl_good, c_21, c_30, c_44]; done) | rfl)))
          · try simp only [sa_ap, si_ap, reduceIte, Nat.reduceEqDiff, up_us, lg_cmp_lt, lg_cmp_gt, lg_cmp_le, lg_cmp_ge] at c_44
            refine g_iconst C dX6_areGood_47 (v := 0) (by decide) ?_
            refine g_zretW C hr (by decide) hQ (Nat.le_refl _) (Nat.le_refl _) dX6_areGood_48 ?_
            exact ⟨by rw [hf]; first | with_reducible rfl | (subst er_1 er_3 er_5; first | with_reducible rfl | (simp only [sa_ap, si_ap, si_sa, sa_sa, sa_3, sa_4, sa_5, sa_6, sa_7, sa_8, rl_good, c_21, c_30, c_44]; done) | (simp [sa_ap, si_ap, si_sa, sa_sa, sa_3, sa_4, sa_5, sa_6, sa_7, sa_8, rl_good, c_21, c_30, c_44]; done) | rfl), rfl, rfl, rfl⟩
  exact g_sub [1, 2, 0] rfl (lp2 (z) 0 (by omega) rfl)

set_option maxHeartbeats 400000 in
set_option maxRecDepth 100000 in
/-- endWaivers.endWaivers -/
theorem c_X6_endWaivers (l : Launch) (D : va_G) (cy : Nat → ClassId) (A : Nat → Prop) (ad sad : Nat → Nat) (X M : XF) (K : KF) (z : Nat) (hz : X 105 0 = nI z) (hzl : z ≤ 12) : Met l yX6_endWaivers (wsA yX6_endWaivers cX6_endWaivers 2 none) ({ frames := 0, cells := 0, slots := 0, locals := 0 }) (PcW D cy A ad sad X M K [.ref (ad 24)]) (QvW D cy A ad (fun X1 M1 K1 => X1 = sa X 33 (rl_end (X 33) z) ∧ M1 = M ∧ K1 = K)) 0 0 A := by
  refine met_ofW [(0, .ref (ad 24))] (by decide +kernel) (Nat.le_of_ble_eq_true rfl) rfl ?_
  intro G C hl hR hL hD hcy hA had hsa hr hQ
  subst hD hcy hA had hsa hl
  refine g_iconst C dX6_endWaivers_0 (v := 0) (by decide) ?_
  refine g_istore_n C dX6_endWaivers_1 (L' := [(1, .int 0), (0, .ref (gad G 24))]) rfl (by rw [hL]; decide) ?_
  have lp2 : ∀ (n i : Nat) (hi : i + n = z), GH G (WX G (sa X 33 (rl_end (X 33) i)) M K) [(0, .ref (gad G 24)), (1, .int (nI i))] 0 0 2 [] := by
    intro n
    induction n with
    | zero =>
      intro i hi
      obtain rfl : z = i := by omega
      refine g_iload_n C dX6_endWaivers_2 1 rfl ?_
      refine g_aload_n C dX6_endWaivers_3 0 rfl ?_
      refine gf_X6_size C tw184 dX6_endWaivers_4 ?_
      refine g_topi hz ?_
      refine g_icmp_ge C dX6_endWaivers_7 (tgt := 23) (by decide) (fun c_7 => ?_) (fun c_7 => absurd (nI_le (a := z) (b := z) (Nat.le_refl _) (by omega)) c_7)
      refine g_vretW C hr hQ (Nat.le_refl _) (Nat.le_refl _) dX6_endWaivers_23 ?_
      exact ⟨(by first | with_reducible rfl | (first | with_reducible rfl | (simp only [sa_ap, si_ap, si_sa, sa_sa, sa_3, sa_4, sa_5, sa_6, sa_7, sa_8, rl_end]; done) | (simp [sa_ap, si_ap, si_sa, sa_sa, sa_3, sa_4, sa_5, sa_6, sa_7, sa_8, rl_end]; done) | rfl)), rfl, rfl⟩
    | succ n ih =>
      intro i hi
      refine g_iload_n C dX6_endWaivers_2 1 rfl ?_
      refine g_aload_n C dX6_endWaivers_3 0 rfl ?_
      refine gf_X6_size C tw184 dX6_endWaivers_4 ?_
      refine g_topi hz ?_
      refine g_icmp_ge C dX6_endWaivers_7 (tgt := 23) (by decide) (fun c_7 => absurd c_7 (nI_ge (a := i) (b := z) (by omega) (by omega))) (fun c_7 => ?_)
      refine g_aload_n C dX6_endWaivers_10 0 rfl ?_
      refine gf_X6_waivedBy C tw180 dX6_endWaivers_11 ?_
      refine g_iload_n C dX6_endWaivers_14 1 rfl ?_
      refine g_iconst C dX6_endWaivers_15 (v := (-1)) (by decide) ?_
      refine as_33 C (by omega) dX6_endWaivers_16 ?_
      refine g_iinc C dX6_endWaivers_17 1 rfl (v := nI (i + 1)) (nI_1 _) (L' := [(1, .int (nI (i + 1))), (0, .ref (gad G 24))]) rfl (by rw [hL]; decide) ?_
      refine g_goto C dX6_endWaivers_20 (tgt := 2) (by decide) ?_
      exact g_sub [1, 0] rfl (g_X (by first | with_reducible rfl | (first | with_reducible rfl | (simp only [sa_ap, si_ap, si_sa, sa_sa, sa_3, sa_4, sa_5, sa_6, sa_7, sa_8, rl_end]; done) | (simp [sa_ap, si_ap, si_sa, sa_sa, sa_3, sa_4, sa_5, sa_6, sa_7, sa_8, rl_end]; done) | rfl)) (ih (i + 1) (by omega)))
  exact g_sub [1, 0] rfl (g_X (sa_self X 33).symm (lp2 (z) 0 (by omega)))

set_option maxHeartbeats 400000 in
set_option maxRecDepth 100000 in
/-- start.start -/
theorem c_X1_start (l : Launch) (D : va_G) (cy : Nat → ClassId) (A : Nat → Prop) (ad sad : Nat → Nat) (X M : XF) (K : KF) (p1 p2 p3 : Int32) : Met l yX1_start (wsA yX1_start cX1_start 4 none) ({ frames := 0, cells := 0, slots := 0, locals := 0 }) (PcW D cy A ad sad X M K [.ref (ad 35), .int p1, .int p2, .int p3]) (QvW D cy A ad (fun X1 M1 K1 => X1 = si (si (si (si (si (si (si X 106 p1) 107 p2) 108 p3) 109 0) 110 0) 113 45) 114 (-1) ∧ M1 = M ∧ K1 = K)) 0 0 A := by
  refine met_ofW [(0, .ref (ad 35)), (1, .int p1), (2, .int p2), (3, .int p3)] (by decide +kernel) (Nat.le_of_ble_eq_true rfl) rfl ?_
  intro G C hl hR hL hD hcy hA had hsa hr hQ
  subst hD hcy hA had hsa hl
  refine g_aload_n C dX1_start_0 0 rfl ?_
  refine g_iload_n C dX1_start_1 1 rfl ?_
  refine pf_X1_at C tw215 dX1_start_2 ?_
  refine g_aload_n C dX1_start_5 0 rfl ?_
  refine g_iload_n C dX1_start_6 2 rfl ?_
  refine pf_X1_open C tw217 dX1_start_7 ?_
  refine g_aload_n C dX1_start_10 0 rfl ?_
  refine g_iload_n C dX1_start_11 3 rfl ?_
  refine pf_X1_shut C tw219 dX1_start_12 ?_
  refine g_aload_n C dX1_start_15 0 rfl ?_
  refine g_iconst C dX1_start_16 (v := 0) (by decide) ?_
  refine pf_X1_secondsHeld C tw221 dX1_start_17 ?_
  refine g_aload_n C dX1_start_20 0 rfl ?_
  refine g_iconst C dX1_start_21 (v := 0) (by decide) ?_
  refine pf_X1_heldHere C tw223 dX1_start_22 ?_
  refine g_aload_n C dX1_start_25 0 rfl ?_
  refine g_bipush C dX1_start_26 (v := 45) (by decide) ?_
  refine pf_X1_firstCause C ⟨by decide, by decide⟩ tw229 dX1_start_28 ?_
  refine g_aload_n C dX1_start_31 0 rfl ?_
  refine g_iconst C dX1_start_32 (v := (-1)) (by decide) ?_
  refine pf_X1_firstRule C tw230 dX1_start_33 ?_
  refine g_vretW C hr hQ (Nat.le_refl _) (Nat.le_refl _) dX1_start_36 ?_
  exact ⟨(by first | with_reducible rfl | (first | with_reducible rfl | (simp only [sa_ap, si_ap, si_sa, sa_sa, sa_3, sa_4, sa_5, sa_6, sa_7, sa_8]; done) | (simp [sa_ap, si_ap, si_sa, sa_sa, sa_3, sa_4, sa_5, sa_6, sa_7, sa_8]; done) | rfl)), rfl, rfl⟩

set_option maxHeartbeats 400000 in
set_option maxRecDepth 100000 in
/-- setBack.setBack -/
theorem c_X1_setBack (l : Launch) (D : va_G) (cy : Nat → ClassId) (A : Nat → Prop) (ad sad : Nat → Nat) (X M : XF) (K : KF) (p1 : Int32) : Met l yX1_setBack (wsA yX1_setBack cX1_setBack 2 none) ({ frames := 0, cells := 0, slots := 0, locals := 0 }) (PcW D cy A ad sad X M K [.ref (ad 35), .int p1]) (QvW D cy A ad (fun X1 M1 K1 => X1 = si (si X 106 p1) 110 0 ∧ M1 = M ∧ K1 = K)) 0 0 A := by
  refine met_ofW [(0, .ref (ad 35)), (1, .int p1)] (by decide +kernel) (Nat.le_of_ble_eq_true rfl) rfl ?_
  intro G C hl hR hL hD hcy hA had hsa hr hQ
  subst hD hcy hA had hsa hl
  refine g_aload_n C dX1_setBack_0 0 rfl ?_
  refine g_iload_n C dX1_setBack_1 1 rfl ?_
  refine pf_X1_at C tw215 dX1_setBack_2 ?_
  refine g_aload_n C dX1_setBack_5 0 rfl ?_
  refine g_iconst C dX1_setBack_6 (v := 0) (by decide) ?_
  refine pf_X1_heldHere C tw223 dX1_setBack_7 ?_
  refine g_vretW C hr hQ (Nat.le_refl _) (Nat.le_refl _) dX1_setBack_10 ?_
  exact ⟨(by first | with_reducible rfl | (first | with_reducible rfl | (simp only [sa_ap, si_ap, si_sa, sa_sa, sa_3, sa_4, sa_5, sa_6, sa_7, sa_8]; done) | (simp [sa_ap, si_ap, si_sa, sa_sa, sa_3, sa_4, sa_5, sa_6, sa_7, sa_8]; done) | rfl)), rfl, rfl⟩

set_option maxHeartbeats 400000 in
set_option maxRecDepth 100000 in
/-- blame.blame -/
theorem c_X1_blame (l : Launch) (D : va_G) (cy : Nat → ClassId) (A : Nat → Prop) (ad sad : Nat → Nat) (X M : XF) (K : KF) (p1 p2 : Int32) (h1 : isCh p1) : Met l yX1_blame (wsA yX1_blame cX1_blame 3 none) ({ frames := 0, cells := 0, slots := 0, locals := 0 }) (PcW D cy A ad sad X M K [.ref (ad 35), .int p1, .int p2]) (QvW D cy A ad (fun X1 M1 K1 => X1 = si (si X 111 p1) 112 p2 ∧ M1 = M ∧ K1 = K)) 0 0 A := by
  refine met_ofW [(0, .ref (ad 35)), (1, .int p1), (2, .int p2)] (by decide +kernel) (Nat.le_of_ble_eq_true rfl) rfl ?_
  intro G C hl hR hL hD hcy hA had hsa hr hQ
  subst hD hcy hA had hsa hl
  refine g_aload_n C dX1_blame_0 0 rfl ?_
  refine g_iload_n C dX1_blame_1 1 rfl ?_
  refine pf_X1_cause C h1 tw225 dX1_blame_2 ?_
  refine g_aload_n C dX1_blame_5 0 rfl ?_
  refine g_iload_n C dX1_blame_6 2 rfl ?_
  refine pf_X1_causeRule C tw227 dX1_blame_7 ?_
  refine g_vretW C hr hQ (Nat.le_refl _) (Nat.le_refl _) dX1_blame_10 ?_
  exact ⟨(by first | with_reducible rfl | (first | with_reducible rfl | (simp only [sa_ap, si_ap, si_sa, sa_sa, sa_3, sa_4, sa_5, sa_6, sa_7, sa_8]; done) | (simp [sa_ap, si_ap, si_sa, sa_sa, sa_3, sa_4, sa_5, sa_6, sa_7, sa_8]; done) | rfl)), rfl, rfl⟩

set_option maxHeartbeats 400000 in
set_option maxRecDepth 100000 in
/-- stay.stay -/
theorem c_X1_stay (l : Launch) (D : va_G) (cy : Nat → ClassId) (A : Nat → Prop) (ad sad : Nat → Nat) (X M : XF) (K : KF) (p1 p2 : Int32) (h1 : isCh p1) : Met l yX1_stay (wsA yX1_stay cX1_stay 3 none) ({ frames := 1, cells := 0, slots := 0, locals := 22 }) (PcW D cy A ad sad X M K [.ref (ad 35), .int p1, .int p2]) (QvW D cy A ad (fun X1 M1 K1 => X1 = cd_stay X p1 p2 ∧ M1 = M ∧ K1 = K)) 0 0 A := by
  refine met_ofW [(0, .ref (ad 35)), (1, .int p1), (2, .int p2)] (by decide +kernel) (Nat.le_of_ble_eq_true rfl) rfl ?_
  intro G C hl hR hL hD hcy hA had hsa hr hQ
  subst hD hcy hA had hsa hl
  refine g_aload_n C dX1_stay_0 0 rfl ?_
  refine g_iload_n C dX1_stay_1 1 rfl ?_
  refine g_iload_n C dX1_stay_2 2 rfl ?_
  refine g_callVvW C dX1_stay_3 (c_X1_blame _ _ _ _ _ _ _ _ _ _ _ h1) tw955 tw956 tw957 tw9 tw958 (rv_X1 C) rfl ⟨by decide +kernel, by decide +kernel, rfl⟩ ⟨rfl, rfl⟩ (by rw [hR]; decide) (Nat.le_of_ble_eq_true rfl) (by rw [hR]; decide) (fun X1 M1 K1 h_1 => ?_)
  obtain ⟨hX1, hM1, hK1⟩ := h_1
  subst X1 M1 K1
  refine g_aload_n C dX1_stay_6 0 rfl ?_
  refine gf_X1_firstCause C tw229 dX1_stay_7 ?_
  refine g_bipush C dX1_stay_10 (v := 45) (by decide) ?_
  refine g_icmp_ne C dX1_stay_12 (tgt := 25) (by decide) (fun c_12 => ?_) (fun c_12 => ?_)
  · try simp only [sa_ap, si_ap, reduceIte, Nat.reduceEqDiff, up_us, lg_cmp_lt, lg_cmp_gt, lg_cmp_le, lg_cmp_ge] at c_12
    refine g_aload_n C dX1_stay_25 0 rfl ?_
    refine g_dup C dX1_stay_26 rfl ?_
    refine gf_X1_secondsHeld C tw221 dX1_stay_27 ?_
    refine g_iconst C dX1_stay_30 (v := 1) (by decide) ?_
    refine g_iadd C dX1_stay_31 ?_
    refine pf_X1_secondsHeld C tw221 dX1_stay_32 ?_
    refine g_aload_n C dX1_stay_35 0 rfl ?_
    refine g_dup C dX1_stay_36 rfl ?_
    refine gf_X1_heldHere C tw223 dX1_stay_37 ?_
    refine g_iconst C dX1_stay_40 (v := 1) (by decide) ?_
    refine g_iadd C dX1_stay_41 ?_
    refine pf_X1_heldHere C tw223 dX1_stay_42 ?_
    refine g_vretW C hr hQ (Nat.le_refl _) (Nat.le_refl _) dX1_stay_45 ?_
    exact ⟨(by first | with_reducible rfl | (first | with_reducible rfl | (simp only [sa_ap, si_ap, si_sa, sa_sa, sa_3, sa_4, sa_5, sa_6, sa_7, sa_8, cd_stay, c_12]; done) | (simp [sa_ap, si_ap, si_sa, sa_sa, sa_3, sa_4, sa_5, sa_6, sa_7, sa_8, cd_stay, c_12]; done) | rfl)), rfl, rfl⟩
  · try simp only [sa_ap, si_ap, reduceIte, Nat.reduceEqDiff, up_us, lg_cmp_lt, lg_cmp_gt, lg_cmp_le, lg_cmp_ge] at c_12
    refine g_aload_n C dX1_stay_15 0 rfl ?_
    refine g_iload_n C dX1_stay_16 1 rfl ?_
    refine pf_X1_firstCause C h1 tw229 dX1_stay_17 ?_
    refine g_aload_n C dX1_stay_20 0 rfl ?_
    refine g_iload_n C dX1_stay_21 2 rfl ?_
    refine pf_X1_firstRule C tw230 dX1_stay_22 ?_
    refine g_aload_n C dX1_stay_25 0 rfl ?_
    refine g_dup C dX1_stay_26 rfl ?_
    refine gf_X1_secondsHeld C tw221 dX1_stay_27 ?_
    refine g_iconst C dX1_stay_30 (v := 1) (by decide) ?_
    refine g_iadd C dX1_stay_31 ?_
    refine pf_X1_secondsHeld C tw221 dX1_stay_32 ?_
    refine g_aload_n C dX1_stay_35 0 rfl ?_
    refine g_dup C dX1_stay_36 rfl ?_
    refine gf_X1_heldHere C tw223 dX1_stay_37 ?_
    refine g_iconst C dX1_stay_40 (v := 1) (by decide) ?_
    refine g_iadd C dX1_stay_41 ?_
    refine pf_X1_heldHere C tw223 dX1_stay_42 ?_
    refine g_vretW C hr hQ (Nat.le_refl _) (Nat.le_refl _) dX1_stay_45 ?_
    exact ⟨(by first | with_reducible rfl | (first | with_reducible rfl | (simp only [sa_ap, si_ap, si_sa, sa_sa, sa_3, sa_4, sa_5, sa_6, sa_7, sa_8, cd_stay, c_12]; done) | (simp [sa_ap, si_ap, si_sa, sa_sa, sa_3, sa_4, sa_5, sa_6, sa_7, sa_8, cd_stay, c_12]; done) | rfl)), rfl, rfl⟩

set_option maxHeartbeats 400000 in
set_option maxRecDepth 100000 in
/-- advance.advance -/
theorem c_X1_advance (l : Launch) (D : va_G) (cy : Nat → ClassId) (A : Nat → Prop) (ad sad : Nat → Nat) (X M : XF) (K : KF) : Met l yX1_advance (wsA yX1_advance cX1_advance 1 none) ({ frames := 0, cells := 0, slots := 0, locals := 0 }) (PcW D cy A ad sad X M K [.ref (ad 35)]) (QvW D cy A ad (fun X1 M1 K1 => X1 = si (si X 106 (X 106 0 + 1)) 110 0 ∧ M1 = M ∧ K1 = K)) 0 0 A := by
  refine met_ofW [(0, .ref (ad 35))] (by decide +kernel) (Nat.le_of_ble_eq_true rfl) rfl ?_
  intro G C hl hR hL hD hcy hA had hsa hr hQ
  subst hD hcy hA had hsa hl
  refine g_aload_n C dX1_advance_0 0 rfl ?_
  refine g_dup C dX1_advance_1 rfl ?_
  refine gf_X1_at C tw215 dX1_advance_2 ?_
  refine g_iconst C dX1_advance_5 (v := 1) (by decide) ?_
  refine g_iadd C dX1_advance_6 ?_
  refine pf_X1_at C tw215 dX1_advance_7 ?_
  refine g_aload_n C dX1_advance_10 0 rfl ?_
  refine g_iconst C dX1_advance_11 (v := 0) (by decide) ?_
  refine pf_X1_heldHere C tw223 dX1_advance_12 ?_
  refine g_vretW C hr hQ (Nat.le_refl _) (Nat.le_refl _) dX1_advance_15 ?_
  exact ⟨(by first | with_reducible rfl | (first | with_reducible rfl | (simp only [sa_ap, si_ap, si_sa, sa_sa, sa_3, sa_4, sa_5, sa_6, sa_7, sa_8]; done) | (simp [sa_ap, si_ap, si_sa, sa_sa, sa_3, sa_4, sa_5, sa_6, sa_7, sa_8]; done) | rfl)), rfl, rfl⟩

set_option maxHeartbeats 400000 in
set_option maxRecDepth 100000 in
/-- blameFirstHold.blameFirstHold -/
theorem c_X1_blameFirstHold (l : Launch) (D : va_G) (cy : Nat → ClassId) (A : Nat → Prop) (ad sad : Nat → Nat) (X M : XF) (K : KF) (h1 : isCh (X 113 0)) : Met l yX1_blameFirstHold (wsA yX1_blameFirstHold cX1_blameFirstHold 1 none) ({ frames := 1, cells := 0, slots := 0, locals := 22 }) (PcW D cy A ad sad X M K [.ref (ad 35)]) (QvW D cy A ad (fun X1 M1 K1 => X1 = si (si X 111 (if X 113 0 = 45 then 111 else X 113 0)) 112 (X 114 0) ∧ M1 = M ∧ K1 = K)) 0 0 A := by
  refine met_ofW [(0, .ref (ad 35))] (by decide +kernel) (Nat.le_of_ble_eq_true rfl) rfl ?_
  intro G C hl hR hL hD hcy hA had hsa hr hQ
  subst hD hcy hA had hsa hl
  refine g_aload_n C dX1_blameFirstHold_0 0 rfl ?_
  refine g_aload_n C dX1_blameFirstHold_1 0 rfl ?_
  refine gf_X1_firstCause C tw229 dX1_blameFirstHold_2 ?_
  refine g_bipush C dX1_blameFirstHold_5 (v := 45) (by decide) ?_
  refine g_icmp_ne C dX1_blameFirstHold_7 (tgt := 15) (by decide) (fun c_7 => ?_) (fun c_7 => ?_)
  · try simp only [sa_ap, si_ap, reduceIte, Nat.reduceEqDiff, up_us, lg_cmp_lt, lg_cmp_gt, lg_cmp_le, lg_cmp_ge] at c_7
    refine g_aload_n C dX1_blameFirstHold_15 0 rfl ?_
    refine gf_X1_firstCause C tw229 dX1_blameFirstHold_16 ?_
    refine g_aload_n C dX1_blameFirstHold_19 0 rfl ?_
    refine gf_X1_firstRule C tw230 dX1_blameFirstHold_20 ?_
    refine g_callVvW C dX1_blameFirstHold_23 (c_X1_blame _ _ _ _ _ _ _ _ _ _ _ (by first | exact ⟨by decide, by decide⟩ | exact h1)) tw955 tw956 tw957 tw9 tw958 (rv_X1 C) rfl ⟨by decide +kernel, by decide +kernel, rfl⟩ ⟨rfl, rfl⟩ (by rw [hR]; decide) (Nat.le_of_ble_eq_true rfl) (by rw [hR]; decide) (fun X1 M1 K1 h_1 => ?_)
    obtain ⟨hX1, hM1, hK1⟩ := h_1
    subst X1 M1 K1
    refine g_vretW C hr hQ (Nat.le_refl _) (Nat.le_refl _) dX1_blameFirstHold_26 ?_
    exact ⟨(by first | with_reducible rfl | (first | with_reducible rfl | (simp only [sa_ap, si_ap, si_sa, sa_sa, sa_3, sa_4, sa_5, sa_6, sa_7, sa_8, c_7]; done) | (simp [sa_ap, si_ap, si_sa, sa_sa, sa_3, sa_4, sa_5, sa_6, sa_7, sa_8, c_7]; done) | rfl)), rfl, rfl⟩
  · try simp only [sa_ap, si_ap, reduceIte, Nat.reduceEqDiff, up_us, lg_cmp_lt, lg_cmp_gt, lg_cmp_le, lg_cmp_ge] at c_7
    refine g_bipush C dX1_blameFirstHold_10 (v := 111) (by decide) ?_
    refine g_goto C dX1_blameFirstHold_12 (tgt := 19) (by decide) ?_
    refine g_aload_n C dX1_blameFirstHold_19 0 rfl ?_
    refine gf_X1_firstRule C tw230 dX1_blameFirstHold_20 ?_
    refine g_callVvW C dX1_blameFirstHold_23 (c_X1_blame _ _ _ _ _ _ _ _ _ _ _ (by first | exact ⟨by decide, by decide⟩ | exact h1)) tw955 tw956 tw957 tw9 tw958 (rv_X1 C) rfl ⟨by decide +kernel, by decide +kernel, rfl⟩ ⟨rfl, rfl⟩ (by rw [hR]; decide) (Nat.le_of_ble_eq_true rfl) (by rw [hR]; decide) (fun X1 M1 K1 h_2 => ?_)
    obtain ⟨hX1, hM1, hK1⟩ := h_2
    subst X1 M1 K1
    refine g_vretW C hr hQ (Nat.le_refl _) (Nat.le_refl _) dX1_blameFirstHold_26 ?_
    exact ⟨(by first | with_reducible rfl | (first | with_reducible rfl | (simp only [sa_ap, si_ap, si_sa, sa_sa, sa_3, sa_4, sa_5, sa_6, sa_7, sa_8, c_7]; done) | (simp [sa_ap, si_ap, si_sa, sa_sa, sa_3, sa_4, sa_5, sa_6, sa_7, sa_8, c_7]; done) | rfl)), rfl, rfl⟩

set_option maxHeartbeats 400000 in
set_option maxRecDepth 100000 in
/-- isInWindow.isInWindow -/
theorem c_X1_isInWindow (l : Launch) (D : va_G) (cy : Nat → ClassId) (A : Nat → Prop) (ad sad : Nat → Nat) (X M : XF) (K : KF) (p1 : Int32) : Met l yX1_isInWindow (wsA yX1_isInWindow cX1_isInWindow 2 (some .boolean)) ({ frames := 1, cells := 0, slots := 0, locals := 22 }) (PcW D cy A ad sad X M K [.ref (ad 35), .int p1]) (QiW D cy A ad (fun r X1 M1 K1 => r = inr (X 107 0) (X 108 0) p1 ∧ X1 = X ∧ M1 = M ∧ K1 = K)) 0 0 A := by
  refine met_ofW [(0, .ref (ad 35)), (1, .int p1)] (by decide +kernel) (Nat.le_of_ble_eq_true rfl) rfl ?_
  intro G C hl hR hL hD hcy hA had hsa hr hQ
  subst hD hcy hA had hsa hl
  refine g_iload_n C dX1_isInWindow_0 1 rfl ?_
  refine g_aload_n C dX1_isInWindow_1 0 rfl ?_
  refine gf_X1_open C tw217 dX1_isInWindow_2 ?_
  refine g_aload_n C dX1_isInWindow_5 0 rfl ?_
  refine gf_X1_shut C tw219 dX1_isInWindow_6 ?_
  refine g_callSNiW C dX1_isInWindow_9 (c_X10_isWithin _ _ _ _ _ _ _ _ _ _ _ _) (host := "LaunchRange") (by decide +kernel) tw504 tw1 tw505 rfl ⟨by decide +kernel, by decide +kernel, rfl⟩ ⟨rfl, rfl⟩ (by rw [hR]; decide) (Nat.le_of_ble_eq_true rfl) (by rw [hR]; decide) (fun r_1 X1 M1 K1 h_2 => ?_)
  obtain ⟨er_1, hX1, hM1, hK1⟩ := h_2
  subst X1 M1 K1
  try simp only [sa_ap, si_ap, reduceIte, Nat.reduceEqDiff] at er_1
  refine g_zretW C hr (by rw [er_1]; exact (isBo.na (inr_bo _ _ _)).1) hQ (Nat.le_refl _) (Nat.le_refl _) dX1_isInWindow_12 ?_
  exact ⟨(by first | with_reducible rfl | (subst er_1; first | with_reducible rfl | (simp only [sa_ap, si_ap, si_sa, sa_sa, sa_3, sa_4, sa_5, sa_6, sa_7, sa_8]; done) | (simp [sa_ap, si_ap, si_sa, sa_sa, sa_3, sa_4, sa_5, sa_6, sa_7, sa_8]; done) | rfl)), (by first | with_reducible rfl | (subst er_1; first | with_reducible rfl | (simp only [sa_ap, si_ap, si_sa, sa_sa, sa_3, sa_4, sa_5, sa_6, sa_7, sa_8]; done) | (simp [sa_ap, si_ap, si_sa, sa_sa, sa_3, sa_4, sa_5, sa_6, sa_7, sa_8]; done) | rfl)), rfl, rfl⟩

set_option maxHeartbeats 400000 in
set_option maxRecDepth 100000 in
/-- leave.leave -/
theorem c_X2_leave (l : Launch) (D : va_G) (cy : Nat → ClassId) (A : Nat → Prop) (ad sad : Nat → Nat) (X M : XF) (K : KF) (p1 p2 : Int32) (h2 : isBo p2) : Met l yX2_leave (wsA yX2_leave cX2_leave 3 none) ({ frames := 0, cells := 0, slots := 0, locals := 0 }) (PcW D cy A ad sad X M K [.ref (ad 36), .int p1, .int p2]) (QvW D cy A ad (fun X1 M1 K1 => X1 = si (si X 115 p1) 117 p2 ∧ M1 = M ∧ K1 = K)) 0 0 A := by
  refine met_ofW [(0, .ref (ad 36)), (1, .int p1), (2, .int p2)] (by decide +kernel) (Nat.le_of_ble_eq_true rfl) rfl ?_
  intro G C hl hR hL hD hcy hA had hsa hr hQ
  subst hD hcy hA had hsa hl
  refine g_aload_n C dX2_leave_0 0 rfl ?_
  refine g_iload_n C dX2_leave_1 1 rfl ?_
  refine pf_X2_leftAt C tw258 dX2_leave_2 ?_
  refine g_aload_n C dX2_leave_5 0 rfl ?_
  refine g_iload_n C dX2_leave_6 2 rfl ?_
  refine pf_X2_hadGoodRules C h2 tw262 dX2_leave_7 ?_
  refine g_vretW C hr hQ (Nat.le_refl _) (Nat.le_refl _) dX2_leave_10 ?_
  exact ⟨(by first | with_reducible rfl | (first | with_reducible rfl | (simp only [sa_ap, si_ap, si_sa, sa_sa, sa_3, sa_4, sa_5, sa_6, sa_7, sa_8]; done) | (simp [sa_ap, si_ap, si_sa, sa_sa, sa_3, sa_4, sa_5, sa_6, sa_7, sa_8]; done) | rfl)), rfl, rfl⟩

set_option maxHeartbeats 400000 in
set_option maxRecDepth 100000 in
/-- compareRadars.compareRadars -/
theorem c_X2_compareRadars (l : Launch) (D : va_G) (cy : Nat → ClassId) (A : Nat → Prop) (ad sad : Nat → Nat) (X M : XF) (K : KF) : Met l yX2_compareRadars (wsA yX2_compareRadars cX2_compareRadars 1 none) ({ frames := 1, cells := 0, slots := 0, locals := 21 }) (PcW D cy A ad sad X M K [.ref (ad 36)]) (QvW D cy A ad (fun X1 M1 K1 => X1 = si X 116 (if absI (X 37 0 - X 37 1) ≤ 20 then 0 else X 116 0 + 1) ∧ M1 = M ∧ K1 = K)) 0 0 A := by
  refine met_ofW [(0, .ref (ad 36))] (by decide +kernel) (Nat.le_of_ble_eq_true rfl) rfl ?_
  intro G C hl hR hL hD hcy hA had hsa hr hQ
  subst hD hcy hA had hsa hl
  refine g_aload_n C dX2_compareRadars_0 0 rfl ?_
  refine g_aload_n C dX2_compareRadars_1 0 rfl ?_
  refine gf_X2_off C tw256 dX2_compareRadars_2 ?_
  refine g_iconst C dX2_compareRadars_5 (v := 0) (by decide) ?_
  refine g_topi (y := nI 0) rfl ?_
  refine al_37 C (by omega) dX2_compareRadars_6 ?_
  refine g_aload_n C dX2_compareRadars_7 0 rfl ?_
  refine gf_X2_off C tw256 dX2_compareRadars_8 ?_
  refine g_iconst C dX2_compareRadars_11 (v := 1) (by decide) ?_
  refine g_topi (y := nI 1) rfl ?_
  refine al_37 C (by omega) dX2_compareRadars_12 ?_
  refine g_isub C dX2_compareRadars_13 ?_
  refine g_abs C dX2_compareRadars_14 tw1002 (Nat.le_of_ble_eq_true rfl) (by rw [hR]; decide) ?_
  refine g_topi (y := absI _) rfl ?_
  refine g_bipush C dX2_compareRadars_17 (v := 20) (by decide) ?_
  refine g_icmp_le C dX2_compareRadars_19 (tgt := 31) (by decide) (fun c_19 => ?_) (fun c_19 => ?_)
  · try simp only [sa_ap, si_ap, reduceIte, Nat.reduceEqDiff, up_us, lg_cmp_lt, lg_cmp_gt, lg_cmp_le, lg_cmp_ge] at c_19
    refine g_iconst C dX2_compareRadars_31 (v := 0) (by decide) ?_
    refine pf_X2_secondsApart C tw260 dX2_compareRadars_32 ?_
    refine g_vretW C hr hQ (Nat.le_refl _) (Nat.le_refl _) dX2_compareRadars_35 ?_
    exact ⟨(by first | with_reducible rfl | (first | with_reducible rfl | (simp only [sa_ap, si_ap, si_sa, sa_sa, sa_3, sa_4, sa_5, sa_6, sa_7, sa_8, c_19]; done) | (simp [sa_ap, si_ap, si_sa, sa_sa, sa_3, sa_4, sa_5, sa_6, sa_7, sa_8, c_19]; done) | rfl)), rfl, rfl⟩
  · try simp only [sa_ap, si_ap, reduceIte, Nat.reduceEqDiff, up_us, lg_cmp_lt, lg_cmp_gt, lg_cmp_le, lg_cmp_ge] at c_19
    refine g_aload_n C dX2_compareRadars_22 0 rfl ?_
    refine gf_X2_secondsApart C tw260 dX2_compareRadars_23 ?_
    refine g_iconst C dX2_compareRadars_26 (v := 1) (by decide) ?_
    refine g_iadd C dX2_compareRadars_27 ?_
    refine g_goto C dX2_compareRadars_28 (tgt := 32) (by decide) ?_
    refine pf_X2_secondsApart C tw260 dX2_compareRadars_32 ?_
    refine g_vretW C hr hQ (Nat.le_refl _) (Nat.le_refl _) dX2_compareRadars_35 ?_
    exact ⟨(by first | with_reducible rfl | (first | with_reducible rfl | (simp only [sa_ap, si_ap, si_sa, sa_sa, sa_3, sa_4, sa_5, sa_6, sa_7, sa_8, c_19]; done) | (simp [sa_ap, si_ap, si_sa, sa_sa, sa_3, sa_4, sa_5, sa_6, sa_7, sa_8, c_19]; done) | rfl)), rfl, rfl⟩

set_option maxHeartbeats 400000 in
set_option maxRecDepth 100000 in
/-- isFarOff.isFarOff -/
theorem c_X2_isFarOff (l : Launch) (D : va_G) (cy : Nat → ClassId) (A : Nat → Prop) (ad sad : Nat → Nat) (X M : XF) (K : KF) : Met l yX2_isFarOff (wsA yX2_isFarOff cX2_isFarOff 1 (some .boolean)) ({ frames := 1, cells := 0, slots := 0, locals := 21 }) (PcW D cy A ad sad X M K [.ref (ad 36)]) (QiW D cy A ad (fun r X1 M1 K1 => r = (if absI (X 37 0) ≤ 100 then 0 else if absI (X 37 1) ≤ 100 then 0 else 1) ∧ X1 = X ∧ M1 = M ∧ K1 = K)) 0 0 A := by
  refine met_ofW [(0, .ref (ad 36))] (by decide +kernel) (Nat.le_of_ble_eq_true rfl) rfl ?_
  intro G C hl hR hL hD hcy hA had hsa hr hQ
  subst hD hcy hA had hsa hl
  refine g_aload_n C dX2_isFarOff_0 0 rfl ?_
  refine gf_X2_off C tw256 dX2_isFarOff_1 ?_
  refine g_iconst C dX2_isFarOff_4 (v := 0) (by decide) ?_
  refine g_topi (y := nI 0) rfl ?_
  refine al_37 C (by omega) dX2_isFarOff_5 ?_
  refine g_abs C dX2_isFarOff_6 tw1002 (Nat.le_of_ble_eq_true rfl) (by rw [hR]; decide) ?_
  refine g_topi (y := absI _) rfl ?_
  refine g_bipush C dX2_isFarOff_9 (v := 100) (by decide) ?_
  refine g_icmp_le C dX2_isFarOff_11 (tgt := 32) (by decide) (fun c_11 => ?_) (fun c_11 => ?_)
  · try simp only [sa_ap, si_ap, reduceIte, Nat.reduceEqDiff, up_us, lg_cmp_lt, lg_cmp_gt, lg_cmp_le, lg_cmp_ge] at c_11
    refine g_iconst C dX2_isFarOff_32 (v := 0) (by decide) ?_
    refine g_zretW C hr (by decide) hQ (Nat.le_refl _) (Nat.le_refl _) dX2_isFarOff_33 ?_
    exact ⟨(by first | with_reducible rfl | (first | with_reducible rfl | (simp only [sa_ap, si_ap, si_sa, sa_sa, sa_3, sa_4, sa_5, sa_6, sa_7, sa_8, c_11]; done) | (simp [sa_ap, si_ap, si_sa, sa_sa, sa_3, sa_4, sa_5, sa_6, sa_7, sa_8, c_11]; done) | rfl)), (by first | with_reducible rfl | (first | with_reducible rfl | (simp only [sa_ap, si_ap, si_sa, sa_sa, sa_3, sa_4, sa_5, sa_6, sa_7, sa_8, c_11]; done) | (simp [sa_ap, si_ap, si_sa, sa_sa, sa_3, sa_4, sa_5, sa_6, sa_7, sa_8, c_11]; done) | rfl)), rfl, rfl⟩
  · try simp only [sa_ap, si_ap, reduceIte, Nat.reduceEqDiff, up_us, lg_cmp_lt, lg_cmp_gt, lg_cmp_le, lg_cmp_ge] at c_11
    refine g_aload_n C dX2_isFarOff_14 0 rfl ?_
    refine gf_X2_off C tw256 dX2_isFarOff_15 ?_
    refine g_iconst C dX2_isFarOff_18 (v := 1) (by decide) ?_
    refine g_topi (y := nI 1) rfl ?_
    refine al_37 C (by omega) dX2_isFarOff_19 ?_
    refine g_abs C dX2_isFarOff_20 tw1002 (Nat.le_of_ble_eq_true rfl) (by rw [hR]; decide) ?_
    refine g_topi (y := absI _) rfl ?_
    refine g_bipush C dX2_isFarOff_23 (v := 100) (by decide) ?_
    refine g_icmp_le C dX2_isFarOff_25 (tgt := 32) (by decide) (fun c_25 => ?_) (fun c_25 => ?_)
    · try simp only [sa_ap, si_ap, reduceIte, Nat.reduceEqDiff, up_us, lg_cmp_lt, lg_cmp_gt, lg_cmp_le, lg_cmp_ge] at c_25
      refine g_iconst C dX2_isFarOff_32 (v := 0) (by decide) ?_
      refine g_zretW C hr (by decide) hQ (Nat.le_refl _) (Nat.le_refl _) dX2_isFarOff_33 ?_
      exact ⟨(by first | with_reducible rfl | (first | with_reducible rfl | (simp only [sa_ap, si_ap, si_sa, sa_sa, sa_3, sa_4, sa_5, sa_6, sa_7, sa_8, c_11, c_25]; done) | (simp [sa_ap, si_ap, si_sa, sa_sa, sa_3, sa_4, sa_5, sa_6, sa_7, sa_8, c_11, c_25]; done) | rfl)), (by first | with_reducible rfl | (first | with_reducible rfl | (simp only [sa_ap, si_ap, si_sa, sa_sa, sa_3, sa_4, sa_5, sa_6, sa_7, sa_8, c_11, c_25]; done) | (simp [sa_ap, si_ap, si_sa, sa_sa, sa_3, sa_4, sa_5, sa_6, sa_7, sa_8, c_11, c_25]; done) | rfl)), rfl, rfl⟩
    · try simp only [sa_ap, si_ap, reduceIte, Nat.reduceEqDiff, up_us, lg_cmp_lt, lg_cmp_gt, lg_cmp_le, lg_cmp_ge] at c_25
      refine g_iconst C dX2_isFarOff_28 (v := 1) (by decide) ?_
      refine g_goto C dX2_isFarOff_29 (tgt := 33) (by decide) ?_
      refine g_zretW C hr (by decide) hQ (Nat.le_refl _) (Nat.le_refl _) dX2_isFarOff_33 ?_
      exact ⟨(by first | with_reducible rfl | (first | with_reducible rfl | (simp only [sa_ap, si_ap, si_sa, sa_sa, sa_3, sa_4, sa_5, sa_6, sa_7, sa_8, c_11, c_25]; done) | (simp [sa_ap, si_ap, si_sa, sa_sa, sa_3, sa_4, sa_5, sa_6, sa_7, sa_8, c_11, c_25]; done) | rfl)), (by first | with_reducible rfl | (first | with_reducible rfl | (simp only [sa_ap, si_ap, si_sa, sa_sa, sa_3, sa_4, sa_5, sa_6, sa_7, sa_8, c_11, c_25]; done) | (simp [sa_ap, si_ap, si_sa, sa_sa, sa_3, sa_4, sa_5, sa_6, sa_7, sa_8, c_11, c_25]; done) | rfl)), rfl, rfl⟩
