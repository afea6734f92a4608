/-! what happens: the calls' numbers -/
theorem bel1 {j n : Nat} (h : j < n) (hn : n < 2 ^ 31) : bel (nI j) (nI n) = 1 := by
  unfold bel
  rw [if_neg (nI_pos (by omega)), if_neg (nI_ge h hn)]
theorem sense_ok {a p : Nat} (ha : a < 9) (hp : p < 900) : xk_sense (nI a) (nI p - 20) = 0 := by
  have e : ∀ p : Fin 900, inr (-9999) 9999 (nI p.val - 20) = 1 := by decide +kernel
  unfold xk_sense
  rw [show bel (nI a) 9 = 1 from bel1 ha (by decide), e ⟨p, hp⟩, if_neg (by decide), if_neg (by decide)]
theorem inh_code {o : Nat → Int32} {p : Nat} {b : Int32} (hp : p < 9) (h : ¬ xk_inh o (nI p) b = 0) : xk_inh o (nI p) b = 2 := by
  unfold xk_inh at *
  rw [show bel (nI p) 9 = 1 from bel1 hp (by decide), if_neg (by decide)] at *
  split at h
  · exact absurd rfl h
  · rename_i q
    rw [if_neg q]
    split at h
    · exact absurd rfl h
    · rename_i q2
      rw [if_neg q2]
theorem sn_cnt_le (o : Nat → Int32) (k : Nat) : ∀ n, ∃ m, m ≤ n ∧ sn_cnt o k n = nI m
  | 0 => ⟨0, Nat.le_refl _, rfl⟩
  | n + 1 => by
    obtain ⟨m, hm, e⟩ := sn_cnt_le o k n
    unfold sn_cnt
    rw [e]
    split
    · first | exact ⟨m, by omega, Int32.add_zero _⟩ | exact ⟨m + 1, by omega, nI_1 m⟩
    · first | exact ⟨m, by omega, Int32.add_zero _⟩ | exact ⟨m + 1, by omega, nI_1 m⟩
theorem sn_nneg (o : Nat → Int32) (k : Nat) : ¬ sn_cnt o k 3 = -20002 := by
  obtain ⟨m, hm, e⟩ := sn_cnt_le o k 3
  rw [e]
  exact nI_nneg (by omega) (by decide)
theorem w_ok {lo hi p : Nat} (h1 : lo ≤ p) (h2 : p ≤ hi) (hh : hi < 2 ^ 31) : xk_w (nI lo) (nI hi) (nI p) = 0 := by
  unfold xk_w inr
  rw [if_neg (nI_nlt h1 (by omega)), if_neg (nI_nlt h2 hh), if_neg (by decide)]
theorem boat_ok {j p d : Nat} (hj : j < 8) (hp : p < 12) (hd : d < 20) : xk_boat (nI j) (nI p) (nI d) = 0 := by
  have e1 : ∀ p : Fin 12, inr 0 50 (nI p.val) = 1 := by decide +kernel
  have e2 : ∀ p : Fin 20, inr 0 99 (nI p.val) = 1 := by decide +kernel
  unfold xk_boat
  rw [show bel (nI j) 8 = 1 from bel1 hj (by decide), e1 ⟨p, hp⟩, e2 ⟨d, hd⟩, if_neg (by decide), if_neg (by decide), if_neg (by decide)]
theorem drain_ok {j p : Nat} (hj : j < 3) (hp : p < 50) : xk_drain (nI j) (nI (1 + p)) = 0 := by
  have e1 : ∀ p : Fin 50, inr 1 100000 (nI (1 + p.val)) = 1 := by decide +kernel
  unfold xk_drain
  rw [show bel (nI j) 3 = 1 from bel1 hj (by decide), e1 ⟨p, hp⟩, if_neg (by decide), if_neg (by decide)]
theorem track_a {j p : Nat} (hj : j < 2) (hp : p < 400) : xk_track (nI j) (nI p - 200) = 0 := by
  have e1 : ∀ p : Fin 400, inr (-999) 999 (nI p.val - 200) = 1 := by decide +kernel
  unfold xk_track
  rw [show bel (nI j) 2 = 1 from bel1 hj (by decide), e1 ⟨p, hp⟩, if_neg (by decide), if_neg (by decide)]
theorem track_b {j p : Nat} (hj : j < 2) (hp : p < 21) : xk_track (nI j) (nI p) = 0 := by
  have e1 : ∀ p : Fin 21, inr (-999) 999 (nI p.val) = 1 := by decide +kernel
  unfold xk_track
  rw [show bel (nI j) 2 = 1 from bel1 hj (by decide), e1 ⟨p, hp⟩, if_neg (by decide), if_neg (by decide)]
theorem waive_ok {w : Nat → Int32} {r c u : Nat} (hr : r < 6) (hc : c < 6) (hu : u < 12) (h : rl_may (w r) (nI c) = 1) : xk_waive w (nI 6) (nI r) (nI c) (-(nI u)) = 0 := by
  have e1 : ∀ p : Fin 12, inr (-600) 0 (-(nI p.val)) = 1 := by decide +kernel
  unfold xk_waive
  rw [bel1 hr (by decide), show bel (nI c) 6 = 1 from bel1 hc (by decide), e1 ⟨u, hu⟩, nI_clamp (by omega), h, if_neg (by decide), if_neg (by decide), if_neg (by decide), if_neg (by decide)]
theorem beg_ok {s : Int32} (h : ¬ s = 45) : xk_beg s = 0 := if_neg h
theorem rec_code {f : Nat → Int32} {z5 p : Nat} {st c : Int32} (hp : p < 3) (h5 : z5 < 2 ^ 31) (h : xk_rec f z5 st c (nI p) = 0) : p < z5 ∧ ¬ md_ic st = 0 ∧ f p < c := by
  unfold xk_rec at h
  rw [nI_clamp (by omega)] at h
  split at h
  · exact absurd h (by decide)
  · rename_i q
    split at h
    · exact absurd h (by decide)
    · rename_i q2
      split at h
      · rename_i q3
        refine ⟨Nat.lt_of_not_le (fun w => q ?_), q2, q3⟩
        unfold bel
        rw [if_neg (nI_pos (by omega)), if_pos (nI_le w (by omega))]
      · exact absurd h (by decide)
theorem rec_no {f : Nat → Int32} {z5 : Nat} {st c p r : Int32} (h : ¬ xk_rec f z5 st c p = 0) (hr : r = xcd (xn "java/lang/IndexOutOfBoundsException" "java/lang/UnsupportedOperationException" "java/lang/UnsupportedOperationException" (xk_rec f z5 st c p))) : r < 0 ∧ (r = -20004 ∨ r = -20001) := by
  have e : xk_rec f z5 st c p = 1 ∨ xk_rec f z5 st c p = 2 := by
    unfold xk_rec at *
    repeat' split
    all_goals first | exact Or.inl rfl | exact Or.inr rfl | (simp_all; done)
  rcases e with e | e
  · rw [e] at hr
    have : r = -20001 := hr.trans (by decide)
    subst this
    exact ⟨by decide, Or.inr rfl⟩
  · rw [e] at hr
    have : r = -20004 := hr.trans (by decide)
    subst this
    exact ⟨by decide, Or.inl rfl⟩
theorem undoN_pos (fr s : Nat → Int32) (c : Int32) : ∀ n, ∃ m, m ≤ n ∧ sp_undoN fr s c n = nI m
  | 0 => ⟨0, Nat.le_refl _, rfl⟩
  | n + 1 => by
    obtain ⟨m, hm, e⟩ := undoN_pos fr s c n
    unfold sp_undoN
    rw [e]
    split
    · exact ⟨m, by omega, rfl⟩
    · split
      · exact ⟨m, by omega, rfl⟩
      · exact ⟨m + 1, by omega, nI_1 m⟩
theorem min_le (x y : Int32) : ¬ x < tk_min x y := by
  unfold tk_min
  split
  · rename_i h
    rw [Int32.lt_iff_toInt_lt] at *
    omega
  · rw [Int32.lt_iff_toInt_lt]
    omega
theorem litp (sad : Nat → Nat) (i : Nat) : nI (pn sad i 2) = 0 ∨ nI (pn sad i 2) = 1 := by
  have h := pn_lt sad i (m := 2) (by decide)
  have e : pn sad i 2 = 0 ∨ pn sad i 2 = 1 := by omega
  rcases e with e | e <;> rw [e]
  · exact Or.inl rfl
  · exact Or.inr rfl
section
variable {sad : Nat → Nat} {e v z5 : Nat} {X M : XF} {K : KF}
theorem IV.irr (I : IV sad e v z5 X M K) {k : Nat} (hk : k = 18 ∨ k = 19 ∨ k = 23 ∨ k = 37) (f : Nat → Int32) : IV sad e v z5 (sa X k f) M K := by
  rcases hk with rfl | rfl | rfl | rfl <;> exact ⟨I.tk.of rfl rfl rfl rfl rfl rfl rfl rfl rfl, I.sp.of rfl rfl rfl rfl, I.mk.of rfl rfl, I.rl.of rfl rfl rfl rfl rfl rfl rfl rfl (fun j hj => (I.rl.wv hj).of rfl rfl rfl), I.wx.of (Nat.le_refl _) (Nat.le_refl _) rfl rfl rfl, I.cn.of rfl rfl rfl rfl rfl rfl rfl rfl rfl rfl rfl, I.tx.of (Nat.le_refl _) rfl rfl, I.lv, I.le⟩
theorem IV.wind (I : IV sad e v z5 X M K) {w : Nat} (hw : w ≤ 200) : IV sad e v z5 (si X 100 (nI w)) M K :=
  ⟨I.tk.of rfl rfl rfl rfl rfl rfl rfl rfl rfl, I.sp.of rfl rfl rfl rfl, I.mk.of rfl rfl, I.rl.of rfl rfl rfl rfl rfl rfl rfl rfl (fun j hj => (I.rl.wv hj).of rfl rfl rfl), ⟨⟨w, hw, rfl⟩, I.wx.2⟩, I.cn.of rfl rfl rfl rfl rfl rfl rfl rfl rfl rfl rfl, I.tx.of (Nat.le_refl _) rfl rfl, I.lv, I.le⟩
theorem IV.strike (I : IV sad e v z5 X M K) (he : e + 1 ≤ v + 2) (p : Int32) : IV sad (e + 1) v z5 (if 20 < p then X else si (sa X 21 (upd (X 21) (v % 600) (X 21 (v % 600) + 1))) 104 (X 104 0 + 1)) M K := by
  split
  · exact I.up he
  · have hv := I.lv
    obtain ⟨a1, ⟨m, hm, a2⟩, a3⟩ := I.wx
    refine ⟨I.tk.of rfl rfl rfl rfl rfl rfl rfl rfl rfl, I.sp.of rfl rfl rfl rfl, I.mk.of rfl rfl, I.rl.of rfl rfl rfl rfl rfl rfl rfl rfl (fun j hj => (I.rl.wv hj).of rfl rfl rfl), ⟨a1, ⟨m + 1, by omega, ?_⟩, ?_⟩, I.cn.of rfl rfl rfl rfl rfl rfl rfl rfl rfl rfl rfl, I.tx.of (by omega) rfl rfl, I.lv, he⟩
    · show X 104 0 + 1 = nI (m + 1)
      rw [a2, nI_1]
    · intro j h1 h2
      show upd (X 21) (v % 600) (X 21 (v % 600) + 1) j = 0
      rw [pk_un (by omega)]
      exact a3 j h1 h2
theorem IV.drain (I : IV sad e v z5 X M K) {j : Nat} (hj : j < 3) {p : Nat} (hp : p < 100) : IV sad e v z5 (sa X 5 (upd (X 5) j (X 5 j - tk_min (X 5 j) (nI p)))) M K := by
  refine ⟨⟨fun k hk => ?_, I.tk.2⟩, I.sp.of rfl rfl rfl rfl, I.mk.of rfl rfl, I.rl.of rfl rfl rfl rfl rfl rfl rfl rfl (fun j hj => (I.rl.wv hj).of rfl rfl rfl), I.wx.of (Nat.le_refl _) (Nat.le_refl _) rfl rfl rfl, I.cn.of rfl rfl rfl rfl rfl rfl rfl rfl rfl rfl rfl, I.tx.of (Nat.le_refl _) rfl rfl, I.lv, I.le⟩
  obtain ⟨h1, h2, h3, h4, h5, h6, h7, a, ha, h8⟩ := I.tk.1 k hk
  refine ⟨h1, h2, h3, h4, h5, h6, h7, ?_⟩
  have h400 := pn_lt sad k (m := 400) (by decide)
  show ∃ a', a' ≤ pn sad k 400 ∧ upd (X 5) j (X 5 j - tk_min (X 5 j) (nI p)) k = nI a'
  by_cases e : k = j
  · subst e
    rw [up_us, h8]
    unfold tk_min
    split
    · rename_i q
      have := (nI_ltI (by omega) (by omega)).mp q
      exact ⟨a - p, by omega, pk_sub (by omega)⟩
    · exact ⟨0, by omega, by rw [pk_sub (Nat.le_refl _), Nat.sub_self]⟩
  · rw [pk_un e]
    exact ⟨a, ha, h8⟩
theorem up_bo {f : Nat → Int32} (h : ∀ i, isBo (f i)) {j : Nat} {b : Int32} (hb : isBo b) : ∀ i, isBo (upd f j b i) := by
  intro i
  by_cases e : i = j
  · subst e; rw [up_us]; exact hb
  · rw [pk_un e]; exact h i
theorem IV.valve (I : IV sad e v z5 X M K) {j : Nat} {b : Int32} (hb : isBo b) : IV sad e v z5 (sa X 6 (upd (X 6) j b)) (sa M 47 (upd (M 47) j b)) K := by
  refine ⟨⟨fun k hk => ?_, up_bo I.b6 hb, up_bo I.b47 hb⟩, I.sp.of rfl rfl rfl rfl, I.mk.of rfl rfl, I.rl.of rfl rfl rfl rfl rfl rfl rfl rfl (fun j hj => (I.rl.wv hj).of rfl rfl rfl), I.wx.of (Nat.le_refl _) (Nat.le_refl _) rfl rfl rfl, I.cn.of rfl rfl rfl rfl rfl rfl rfl rfl rfl rfl rfl, I.tx.of (Nat.le_refl _) rfl rfl, I.lv, I.le⟩
  obtain ⟨h1, h2, h3, h4, h5, h6, h7, h8⟩ := I.tk.1 k hk
  refine ⟨h1, h2, h3, h4, h5, h6, ?_, h8⟩
  show upd (M 47) j b k = upd (X 6) j b k
  by_cases e : k = j
  · subst e; rw [up_us, up_us]
  · rw [pk_un e, pk_un e]; exact h7
theorem IV.waive (I : IV sad e v z5 X M K) {r u : Nat} (hr : r < 6) (hu : u < 12) : IV sad e v z5 (sa (sa X 33 (upd (X 33) r (nI (pn sad (60 + r) 6)))) 34 (upd (X 34) r (-(nI u)))) (sa M 43 (upd (M 43) r (-(nI u)))) K := by
  refine ⟨I.tk.of rfl rfl rfl rfl rfl rfl rfl rfl rfl, I.sp.of rfl rfl rfl rfl, I.mk.of rfl rfl, I.rl.of rfl rfl rfl rfl rfl rfl rfl rfl (fun j hj => ?_), I.wx.of (Nat.le_refl _) (Nat.le_refl _) rfl rfl rfl, I.cn.of rfl rfl rfl rfl rfl rfl rfl rfl rfl rfl rfl, I.tx.of (Nat.le_refl _) rfl rfl, I.lv, I.le⟩
  show (upd (X 33) r (nI (pn sad (60 + r) 6)) j = -1 ∧ upd (M 43) r (-(nI u)) j = -9999) ∨ (upd (X 33) r (nI (pn sad (60 + r) 6)) j = nI (pn sad (60 + j) 6) ∧ upd (X 34) r (-(nI u)) j = upd (M 43) r (-(nI u)) j)
  by_cases e : j = r
  · subst e
    rw [up_us, up_us, up_us]
    exact Or.inr ⟨rfl, rfl⟩
  · rw [pk_un e, pk_un e, pk_un e]
    exact I.rl.wv hj
/-- the class's waiver is the law's -/
theorem IV.iw (I : IV sad e v z5 X M K) (h45 : ¬ X 118 0 = 45) {r : Nat} (hr : r < 6) : cl_iw X r = wv_l M r (X 106 0) := by
  have hp := pn_lt sad (60 + r) (m := 6) (by decide)
  have ha := I.cn.2.2.2.2.1
  unfold cl_iw wv_l
  rw [if_neg h45]
  rcases I.rl.wv hr with ⟨q1, q2⟩ | ⟨q1, q2⟩
  · rw [q1, q2]
    unfold rl_wv
    rw [if_pos rfl, if_pos rfl, if_pos]
    rw [Int32.lt_iff_toInt_lt]
    have : (-9999 : Int32).toInt = -9999 := by decide
    omega
  · rw [q1, q2]
    unfold rl_wv
    rw [if_neg (nI_nneg (by omega) (by decide))]
    by_cases c : M 43 r < X 106 0
    · rw [if_pos c, if_pos rfl]
    · rw [if_neg c, if_neg (by decide)]
theorem IV.M102 (I : IV sad e v z5 X M K) {b : Int32} (hb : b = M 102 0) : IV sad e v z5 X (si M 102 b) K :=
  ⟨I.tk.of rfl rfl rfl rfl rfl rfl rfl rfl rfl, I.sp.of rfl rfl rfl hb, I.mk.of rfl rfl, I.rl.of rfl rfl rfl rfl rfl rfl rfl rfl (fun j hj => (I.rl.wv hj).of rfl rfl rfl), I.wx.of (Nat.le_refl _) (Nat.le_refl _) rfl rfl rfl, I.cn.of rfl rfl rfl rfl rfl rfl rfl rfl rfl rfl rfl, I.tx.of (Nat.le_refl _) rfl rfl, I.lv, I.le⟩
theorem undo_ch {fr s : Nat → Int32} {c : Int32} (h : ∀ i, isCh (s i)) : ∀ (n j : Nat), isCh (sp_undo fr s c n j)
  | 0, j => h j
  | n + 1, j => by
    have ih := undo_ch (fr := fr) (c := c) h n
    unfold sp_undo
    split
    · exact ih j
    · split
      · exact ih j
      · by_cases e : j = n
        · subst e; rw [up_us]; exact ⟨by decide, by decide⟩
        · rw [pk_un e]; exact ih j
theorem IV.recycle (I : IV sad e v z5 X M K) (he : e + 1 ≤ v + 2) {j : Nat} (hj : j < z5) (hic : ¬ md_ic (X 118 0) = 0) : IV sad (e + 1) v z5 (rc_X 6 5 j X) (sa (si M 102 1) 43 (wv0 (M 43) 6)) (kLs K 0 v [82]) := by
  have hv := I.lv
  obtain ⟨c1, c2, c3, c4, c5, c6, c7, c8, c9⟩ := I.cn
  have hm := I.mk.2.2 j hj
  refine ⟨I.tk.of rfl rfl rfl rfl rfl rfl rfl rfl rfl, ⟨I.x8, undo_ch I.ch12 5, isBo_1, I.sp.2.2.2.1, fun q => absurd q (show ¬ (1 : Int32) = 0 by decide)⟩, I.mk.of rfl rfl, I.rl.of rfl rfl rfl rfl rfl rfl rfl rfl (fun j hj => Or.inl ⟨end_at _ 6 j hj, wv0_at _ 6 j hj⟩), I.wx.of (by omega) (Nat.le_refl _) rfl rfl rfl, ⟨c1, Or.inr (Or.inl rfl), c3, c4, ?_, ?_, c7, c8, fun q => absurd (show md_hl 99 = 0 by decide) q⟩, ?_, hv, he⟩
  · show -21 ≤ (X 14 j).toInt ∧ (X 14 j).toInt ≤ v
    omega
  · intro _
    show (X 14 j).toInt ≤ -1
    omega
  · have h8 : ¬ (X 118 0 = 45) := fun q => hic (by rw [q]; decide)
    refine I.tx.tell hv I.le (sg_of (by decide)) (lt_one rfl rfl) (by decide) (fun n h => cnt_one (by decide) h ?_ ?_ ?_)
    · show 0 + hs_N 99 ≤ hs_N (X 118 0) + 0
      exact Nat.zero_le _
    · show hl_N (X 118 0) + 0 = hl_N 99
      rcases ic_of hic with q | q <;> rw [q] <;> decide
    · show 1 + ci 99 + (v + 2 * e) ≤ (v + 2 * (e + 1)) + ci (X 118 0)
      have : ci 99 = 1 := by decide
      omega
theorem IV.scrub (I : IV sad e v z5 X M K) (he : e + 1 ≤ v + 2) : IV sad (e + 1) v z5 (sb_A X).1 M (kLs K 0 v (sb_A X).2) := by
  by_cases hic : md_ic (X 118 0) = 0
  · have e1 : sb_A X = (X, []) := if_pos hic
    rw [e1]
    exact I.up he
  · have e1 : sb_A X = (pch 115 (si (si X 111 99) 112 (-1)), [83]) := if_neg hic
    rw [e1]
    have hv := I.lv
    obtain ⟨c1, c2, c3, c4, c5, c6, c7, c8, c9⟩ := I.cn
    refine ⟨I.tk.of rfl rfl rfl rfl rfl rfl rfl rfl rfl, I.sp.of rfl rfl rfl rfl, I.mk.of rfl rfl, I.rl.of rfl rfl rfl rfl rfl rfl rfl rfl (fun j hj => (I.rl.wv hj).of rfl rfl rfl), I.wx.of (by omega) (Nat.le_refl _) rfl rfl rfl, ⟨c1, Or.inr (Or.inr (Or.inr (Or.inl rfl))), c3, c4, c5, fun q => absurd (show md_ic 115 = 0 by decide) q, (show isCh 99 from ⟨by decide, by decide⟩), c8, fun q => absurd (show md_hl 115 = 0 by decide) q⟩, ?_, hv, he⟩
    refine I.tx.tell (cs := [83]) hv I.le (sg_of (by decide)) (lt_one rfl rfl) (show 1 ≤ 4 by decide) (fun n h => cnt_one (by decide) h ?_ ?_ ?_)
    · show 0 + hs_N 115 ≤ hs_N (X 118 0) + 0
      exact Nat.zero_le _
    · show hl_N (X 118 0) + 0 = hl_N 115
      rcases ic_of hic with q | q <;> rw [q] <;> decide
    · show 1 + ci 115 + (v + 2 * e) ≤ (v + 2 * (e + 1)) + ci (X 118 0)
      have : ci 115 = 0 := by decide
      omega
end
theorem sb_45 {X : XF} (h : ¬ X 118 0 = 45) : ¬ (sb_A X).1 118 0 = 45 := by
  by_cases c : md_ic (X 118 0) = 0
  · rw [show sb_A X = (X, []) from if_pos c]
    exact h
  · rw [show sb_A X = (pch 115 (si (si X 111 99) 112 (-1)), [83]) from if_neg c]
    exact (show ¬ (115 : Int32) = 45 by decide)
theorem sb_len (X : XF) : (sb_A X).2.length ≤ 4 := by
  by_cases c : md_ic (X 118 0) = 0
  · rw [show sb_A X = (X, []) from if_pos c]
    exact Nat.zero_le 4
  · rw [show sb_A X = (pch 115 (si (si X 111 99) 112 (-1)), [83]) from if_neg c]
    exact (show 1 ≤ 4 by decide)
