/-! what holds between the law's steps -/
def lo_f (sad : Nat → Nat) (j : Nat) : Int32 := if nI j = 5 then 1 else nI (pn sad (41 + j) 8) - 4
def hi_f (sad : Nat → Nat) (j : Nat) : Int32 := lo_f sad j + 400 + nI (pn sad (48 + j) 800)
def ab_f (sad : Nat → Nat) (j : Nat) : Nat := if j = 0 then pn sad 47 3 else 0
def hasOne (sad : Nat → Nat) (k : Nat) : Prop := 0 < k ∧ pn sad (19 + k) 2 = 0
def I_tk (sad : Nat → Nat) (X M : XF) : Prop := (∀ k : Nat, k < 3 → X 2 k = nI (pn sad k 400) ∧ X 3 k = nI (pn sad (3 + k) 30) ∧ X 4 k = nI (pn sad (6 + k) 40) ∧ M 44 k = X 2 k ∧ M 45 k = X 3 k ∧ M 46 k = X 4 k ∧ M 47 k = X 6 k ∧ ∃ a : Nat, a ≤ pn sad k 400 ∧ X 5 k = nI a) ∧ (∀ i, isBo (X 6 i)) ∧ ∀ i, isBo (M 47 i)
def I_sp (sad : Nat → Nat) (X M : XF) : Prop := X 102 0 = nI 5 ∧ (∀ i, isCh (X 12 i)) ∧ isBo (M 102 0) ∧ (∀ k : Nat, k < 5 → hasOne sad k → ∃ b : Int32, X 11 k = b ||| (1 <<< (nI (pn sad (24 + k) k) &&& 31))) ∧ (M 102 0 = 0 → ∀ k : Nat, k < 5 → hasOne sad k → X 12 k = 45 ∨ X 12 (pn sad (24 + k) k) = 101)
def I_mk (z5 : Nat) (X : XF) : Prop := X 103 0 = nI z5 ∧ z5 ≤ 3 ∧ ∀ j : Nat, j < z5 → -13 ≤ (X 14 j).toInt ∧ (X 14 j).toInt ≤ -2
def wv_ok (sad : Nat → Nat) (X M : XF) (j : Nat) : Prop := (X 33 j = -1 ∧ M 43 j = -9999) ∨ (X 33 j = nI (pn sad (60 + j) 6) ∧ X 34 j = M 43 j)
def I_rl (sad : Nat → Nat) (X M : XF) : Prop := X 105 0 = nI 6 ∧ (∀ j, isCh (X 25 j)) ∧ (∀ i, isBo (X 41 i)) ∧ ∀ j : Nat, j < 6 → X 25 j = kndB.getD j 0 ∧ X 26 j = nI (ab_f sad j) ∧ X 27 j = lo_f sad j ∧ X 28 j = hi_f sad j ∧ X 29 j = nI (pn sad (54 + j) 4) ∧ rl_may (X 32 j) (nI (pn sad (60 + j) 6)) = 1 ∧ wv_ok sad X M j
def I_wx (e v : Nat) (X : XF) : Prop := (∃ w : Nat, w ≤ 200 ∧ X 100 0 = nI w) ∧ (∃ m : Nat, m ≤ e ∧ X 104 0 = nI m) ∧ ∀ j : Nat, v < j → j < 600 → X 21 j = 0
def I_cn (v : Nat) (X M : XF) : Prop := X 101 0 = nI v ∧ stOk (X 118 0) ∧ (∃ a : Nat, a ≤ v + 29 ∧ X 107 0 = nI a ∧ M 100 0 = nI a) ∧ (∃ b : Nat, b ≤ v + 68 ∧ X 108 0 = nI b ∧ M 101 0 = nI b) ∧ (-21 ≤ (X 106 0).toInt ∧ (X 106 0).toInt ≤ v) ∧ (¬ md_ic (X 118 0) = 0 → (X 106 0).toInt ≤ -1) ∧ isCh (X 111 0) ∧ isCh (X 113 0) ∧ (¬ md_hl (X 118 0) = 0 → ¬ X 117 0 = 0 ∧ ¬ inr (X 107 0) (X 108 0) (X 115 0) = 0)
def hs_N (s : Int32) : Nat := if s = 104 then 1 else 0
def hl_N (s : Int32) : Nat := if md_hl s = 0 then 0 else 1
def cnt_ok (n : Nat → Nat) (s : Int32) (b : Nat) : Prop := n 59 = n 67 + n 72 + n 71 + n 82 + n 83 + n 70 + n 88 + n 79 ∧ n 71 + hs_N s ≤ n 72 ∧ n 70 = hl_N s ∧ n 59 + ci s ≤ b
def I_tx (e v : Nat) (X : XF) (K : KF) : Prop := okT (sd 0 K) ∧ R_t (K.2.2.1 0) X ∧ K.2.2.2 = [] ∧ ∃ n : Nat → Nat, LG (K.2.2.1 0) n ∧ cnt_ok n (X 118 0) (v + 2 * e) ∧ (K.2.2.1 0).length ≤ 8 * n 59
def IV (sad : Nat → Nat) (e v z5 : Nat) (X M : XF) (K : KF) : Prop := I_tk sad X M ∧ I_sp sad X M ∧ I_mk z5 X ∧ I_rl sad X M ∧ I_wx e v X ∧ I_cn v X M ∧ I_tx e v X K ∧ v ≤ 70 ∧ e ≤ v + 2
section
variable {sad : Nat → Nat} {e v z5 : Nat} {X M : XF} {K : KF}
theorem IV.tk (I : IV sad e v z5 X M K) : I_tk sad X M := I.1
theorem IV.sp (I : IV sad e v z5 X M K) : I_sp sad X M := I.2.1
theorem IV.mk (I : IV sad e v z5 X M K) : I_mk z5 X := I.2.2.1
theorem IV.rl (I : IV sad e v z5 X M K) : I_rl sad X M := I.2.2.2.1
theorem IV.wx (I : IV sad e v z5 X M K) : I_wx e v X := I.2.2.2.2.1
theorem IV.cn (I : IV sad e v z5 X M K) : I_cn v X M := I.2.2.2.2.2.1
theorem IV.tx (I : IV sad e v z5 X M K) : I_tx e v X K := I.2.2.2.2.2.2.1
theorem IV.lv (I : IV sad e v z5 X M K) : v ≤ 70 := I.2.2.2.2.2.2.2.1
theorem IV.le (I : IV sad e v z5 X M K) : e ≤ v + 2 := I.2.2.2.2.2.2.2.2
theorem IV.x1 (I : IV sad e v z5 X M K) : X 101 0 = nI v := I.cn.1
theorem IV.x8 (I : IV sad e v z5 X M K) : X 102 0 = nI 5 := I.sp.1
theorem IV.x5 (I : IV sad e v z5 X M K) : X 103 0 = nI z5 := I.mk.1
theorem IV.l5 (I : IV sad e v z5 X M K) : z5 ≤ 6 := Nat.le_trans I.mk.2.1 (by decide)
theorem IV.x6 (I : IV sad e v z5 X M K) : X 105 0 = nI 6 := I.rl.1
theorem IV.ch12 (I : IV sad e v z5 X M K) : ∀ i, isCh (X 12 i) := I.sp.2.1
theorem IV.b6 (I : IV sad e v z5 X M K) : ∀ i, isBo (X 6 i) := I.tk.2.1
theorem IV.b47 (I : IV sad e v z5 X M K) : ∀ i, isBo (M 47 i) := I.tk.2.2
theorem IV.b41 (I : IV sad e v z5 X M K) : ∀ i, isBo (X 41 i) := I.rl.2.2.1
theorem IV.ch111 (I : IV sad e v z5 X M K) : isCh (X 111 0) := I.cn.2.2.2.2.2.2.1
theorem IV.ch113 (I : IV sad e v z5 X M K) : isCh (X 113 0) := I.cn.2.2.2.2.2.2.2.1
theorem stOk.ch {s : Int32} (h : stOk s) : isCh s := by
  unfold stOk at h
  rcases h with rfl | rfl | rfl | rfl | rfl | rfl | rfl <;> exact ⟨by decide, by decide⟩
theorem IV.st (I : IV sad e v z5 X M K) : stOk (X 118 0) := I.cn.2.1
theorem IV.ch118 (I : IV sad e v z5 X M K) : isCh (X 118 0) := stOk.ch I.st
theorem kok : ∀ j : Nat, j < 6 → kndB.getD j 0 = 116 ∧ j = 0 ∨ (j ≠ 0 ∧ kndB.getD j 0 ≠ 116) := by decide +kernel
theorem IV.okA (I : IV sad e v z5 X M K) : ∀ j : Nat, j < 6 → okAb (X 25 j) (X 26 j) := by
  intro j hj
  obtain ⟨h1, h2, -⟩ := I.rl.2.2.2 j hj
  have hb : ab_f sad j < 3 := by
    unfold ab_f
    split
    · exact pn_lt _ _ (by decide)
    · decide
  exact ⟨fun _ => ⟨_, hb, h2⟩, fun _ => ⟨_, hb, h2⟩, fun _ _ _ _ _ => ⟨_, by omega, h2⟩⟩
theorem IV.okS (I : IV sad e v z5 X M K) : okS v 6 z5 5 X := ⟨I.x1, I.x8, I.x5, I.x6, I.ch113, I.rl.2.1, I.okA⟩
theorem IV.len (I : IV sad e v z5 X M K) : (K.2.2.1 0).length ≤ 2000 := by
  obtain ⟨-, -, -, n, -, ⟨-, -, -, h⟩, hl⟩ := I.tx
  have := I.lv
  have := I.le
  omega
theorem IV.num (I : IV sad e v z5 X M K) : 16 ≤ K.2.1 0 ∧ K.2.1 0 ≤ 16000 ∧ K.2.1 4 ≤ 10 ∧ K.2.1 6 ≤ 32000 := okT.num I.tx.1 (by have := I.len; show (K.2.2.1 0).length ≤ 8000; omega)
theorem IV.ls (I : IV sad e v z5 X M K) {cs : List Nat} (h : cs.length ≤ 4) : (kLs K 0 v cs).2.1 0 ≤ 16000 ∧ (kLs K 0 v cs).2.1 4 ≤ 10 ∧ (kLs K 0 v cs).2.1 6 ≤ 32000 := by
  have hv := I.lv
  have e0 := sd_ls0 v cs K
  have el := ls_len (v := v) (by omega) cs (sd 0 K)
  have e1 : (sd 0 K).1.length = (K.2.2.1 0).length := rfl
  have hl := I.len
  have ok := okT.ls (v := v) (by omega) cs I.tx.1
  rw [← e0] at ok el
  have n := okT.num ok (by omega)
  exact ⟨n.2.1, n.2.2.1, n.2.2.2⟩
end
/-! the law's own sums -/
def wv_l (M : XF) (j : Nat) (c : Int32) : Int32 := if M 43 j < c then 0 else 1
def im_f (sad : Nat → Nat) (X M : XF) (j : Nat) (c : Int32) : Int32 :=
  if cl_val X j < lo_f sad j then wv_l M j c else if hi_f sad j < cl_val X j then wv_l M j c else if nI (pn sad (54 + j) 4) ≤ X 31 j then 1 else wv_l M j c
def lf (sad : Nat → Nat) (X M : XF) (c : Int32) : Nat → Nat → Nat
  | 0, i => i
  | n + 1, i => if im_f sad X M i c = 0 then i else lf sad X M c n (i + 1)
theorem lf_le (sad : Nat → Nat) (X M : XF) (c : Int32) : ∀ n i, lf sad X M c n i ≤ i + n
  | 0, _ => Nat.le_refl _
  | n + 1, i => by
    have := lf_le sad X M c n (i + 1)
    unfold lf
    split <;> omega
theorem wv_l_bo (M : XF) (j : Nat) (c : Int32) : isBo (wv_l M j c) := by
  unfold wv_l
  split
  · exact isBo_0
  · exact isBo_1
theorem im_bo (sad : Nat → Nat) (X M : XF) (j : Nat) (c : Int32) : isBo (im_f sad X M j c) := by
  unfold im_f
  repeat' split
  all_goals first | exact wv_l_bo _ _ _ | exact isBo_1
theorem bo1 {x : Int32} (h : isBo x) (h0 : ¬ x = 0) : x = 1 := by
  rcases h with e | e
  · exact absurd e h0
  · exact e
