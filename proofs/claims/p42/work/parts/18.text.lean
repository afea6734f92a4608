/-! the class and its text -/
def kLs (K : KF) (w v : Nat) : List Nat → KF
  | [] => K
  | c :: cs => kLs (kLg K w v c) w v cs
theorem kLs_app (K : KF) (w v : Nat) : ∀ (a b : List Nat), kLs K w v (a ++ b) = kLs (kLs K w v a) w v b
  | [], _ => rfl
  | c :: cs, b => kLs_app (kLg K w v c) w v cs b
theorem kq {K K' : KF} (h : K = K') : K.2.1 0 = K'.2.1 0 ∧ K.2.1 1 = K'.2.1 1 ∧ K.2.1 4 = K'.2.1 4 ∧ K.2.1 5 = K'.2.1 5 ∧ K.2.1 6 = K'.2.1 6 ∧ K.2.1 7 = K'.2.1 7 := by subst h; exact ⟨rfl, rfl, rfl, rfl, rfl, rfl⟩
theorem kLg_le0 (K : KF) (v c : Nat) : K.2.1 0 ≤ (kLg K 0 v c).2.1 0 ∧ K.2.1 4 ≤ (kLg K 0 v c).2.1 4 ∧ K.2.1 6 ≤ (kLg K 0 v c).2.1 6 := by
  have g1 := kApp_ge0 K (decL v)
  have g2 := kApp_ge0 (kApp K 0 (decL v)) [c]
  have g3 : (kApp (kApp K 0 (decL v)) 0 [c]).2.1 0 ≤ (kLg K 0 v c).2.1 0 := kApp_ge0 _ _
  have e4 := kLg_c0 K v c
  have e6 := kLg_s0 K v c
  omega
theorem kLg_le1 (K : KF) (v c : Nat) : K.2.1 1 ≤ (kLg K 1 v c).2.1 1 ∧ K.2.1 5 ≤ (kLg K 1 v c).2.1 5 ∧ K.2.1 7 ≤ (kLg K 1 v c).2.1 7 := by
  have g1 := kApp_ge1 K (decL v)
  have g2 := kApp_ge1 (kApp K 1 (decL v)) [c]
  have g3 : (kApp (kApp K 1 (decL v)) 1 [c]).2.1 1 ≤ (kLg K 1 v c).2.1 1 := kApp_ge1 _ _
  have e4 := kLg_c1 K v c
  have e6 := kLg_s1 K v c
  omega
theorem kLs_le0 (v : Nat) : ∀ (cs : List Nat) (K : KF), K.2.1 0 ≤ (kLs K 0 v cs).2.1 0 ∧ K.2.1 4 ≤ (kLs K 0 v cs).2.1 4 ∧ K.2.1 6 ≤ (kLs K 0 v cs).2.1 6
  | [], _ => ⟨Nat.le_refl _, Nat.le_refl _, Nat.le_refl _⟩
  | c :: cs, K => by
    have h1 := kLg_le0 K v c
    have h2 := kLs_le0 v cs (kLg K 0 v c)
    show K.2.1 0 ≤ (kLs (kLg K 0 v c) 0 v cs).2.1 0 ∧ K.2.1 4 ≤ (kLs (kLg K 0 v c) 0 v cs).2.1 4 ∧ K.2.1 6 ≤ (kLs (kLg K 0 v c) 0 v cs).2.1 6
    omega
theorem kLs_le1 (v : Nat) : ∀ (cs : List Nat) (K : KF), K.2.1 1 ≤ (kLs K 1 v cs).2.1 1 ∧ K.2.1 5 ≤ (kLs K 1 v cs).2.1 5 ∧ K.2.1 7 ≤ (kLs K 1 v cs).2.1 7
  | [], _ => ⟨Nat.le_refl _, Nat.le_refl _, Nat.le_refl _⟩
  | c :: cs, K => by
    have h1 := kLg_le1 K v c
    have h2 := kLs_le1 v cs (kLg K 1 v c)
    show K.2.1 1 ≤ (kLs (kLg K 1 v c) 1 v cs).2.1 1 ∧ K.2.1 5 ≤ (kLs (kLg K 1 v c) 1 v cs).2.1 5 ∧ K.2.1 7 ≤ (kLs (kLg K 1 v c) 1 v cs).2.1 7
    omega
/-- how often a letter stands in the first signs -/
def tm_of (t : List Nat) (c : Int32) : Nat → Int32
  | 0 => 0
  | i + 1 => tm_of t c i + (if nI (t[i]?.getD 0) = c then 1 else 0)
def st_of (c : Int32) : Int32 := if c = 67 then 99 else if c = 71 then 99 else if c = 82 then 99 else if c = 72 then 104 else if c = 83 then 115 else if c = 70 then 102 else if c = 88 then 120 else 111
theorem st_of_ch (c : Int32) : isCh (st_of c) := by
  unfold st_of
  repeat' split
  all_goals exact ⟨by decide, by decide⟩
def st_last (t : List Nat) : Int32 := if 2 ≤ nI t.length then st_of (nI (t.getD (t.length - 2) 0)) else 45
theorem st_last_ch (t : List Nat) : isCh (st_last t) := by
  unfold st_last
  split
  · exact st_of_ch _
  · exact ⟨by decide, by decide⟩
def tl_all (X : XF) (t : List Nat) : Int32 := if tm_of t 59 t.length = X 119 0 then (if st_last t = X 118 0 then 1 else 0) else 0
theorem nI_2 {n : Nat} (h : (2 : Int32) ≤ nI n) : nI n - 2 = nI (n - 2) := by
  have h2 : 2 ≤ n := Nat.le_of_not_lt (fun q => by
    have : n = 0 ∨ n = 1 := by omega
    rcases this with e | e <;> subst e <;> exact absurd h (by decide))
  obtain ⟨m, rfl⟩ : ∃ m, n = m + 2 := ⟨n - 2, by omega⟩
  rw [show m + 2 - 2 = m by omega, show m + 2 = m + 1 + 1 by omega, show (2 : Int32) = 1 + 1 from rfl, ← Int32.sub_sub, nI_pred, nI_pred]
theorem len_2 {n : Nat} (h : (2 : Int32) ≤ nI n) : n - 2 < n := by
  have h2 : n ≠ 0 := fun e => absurd h (by subst e; decide)
  omega
def pch (s : Int32) (X : XF) : XF := si (si X 118 s) 119 (X 119 0 + 1)
theorem cd_st (X : XF) (a b : Int32) {k : Nat} (h : k < 109 ∨ 114 < k) : cd_stay X a b k = X k := by
  unfold cd_stay
  split <;> (funext j; simp only [si]; repeat' split) <;> first | omega | rfl
theorem pch_k (s : Int32) (X : XF) {k : Nat} (h : k < 118 ∨ 119 < k) : pch s X k = X k := by
  funext j
  simp only [pch, si]
  repeat' split
  all_goals first | omega | rfl
def lk_X (X : XF) : Nat → (Nat → Int32) × (Nat → Int32)
  | 0 => (X 30, X 31)
  | i + 1 => (upd (lk_X X i).1 i (cl_val X i), upd (lk_X X i).2 i (if inr (X 27 i) (X 28 i) (cl_val X i) = 0 then 0 else (lk_X X i).2 i + 1))
abbrev XL := XF × List Nat
def h_A (X : XF) (a b : Int32) : XL := if X 118 0 = 99 then (pch 104 (cd_stay X a b), [72]) else (cd_stay X a b, [])
def go_1 (X : XF) : XL := if X 118 0 = 104 then (pch 99 X, [71]) else (X, [])
def go_gd (X : XF) (z : Nat) : Int32 := rl_good (X 31) (X 29) (X 27) (X 28) (X 30) (X 33) (X 34) (X 32) (X 106 0) z 0
def go_2 (X : XF) : XF := si (si X 106 (X 106 0 + 1)) 110 0
def go_3 (v : Nat) (g : Int32) (X : XF) : XF := pch 102 (si (si X 115 (nI (v + 1))) 117 g)
def go_A (v z : Nat) (X : XF) : XL :=
  if X 106 0 + 1 = 0 then (if inr (X 107 0) (X 108 0) (nI (v + 1)) = 0 then (go_2 (go_1 X).1, (go_1 X).2) else (go_3 v (go_gd X z) (go_2 (go_1 X).1), (go_1 X).2 ++ [70])) else (go_2 (go_1 X).1, (go_1 X).2)
def t_A (v : Nat) (p : XL) : XL := if md_ic (p.1 118 0) = 0 then p else if nI (v + 1) - p.1 106 0 ≤ p.1 108 0 then p else (pch 115 (si (si p.1 111 (if p.1 113 0 = 45 then 111 else p.1 113 0)) 112 (p.1 114 0)), p.2 ++ [83])
def fs_A (X : XF) (z : Nat) : Int32 := rl_first (X 31) (X 29) (X 27) (X 28) (X 30) (X 33) (X 34) (X 106 0) z 0
def kp_A (z5 z8 : Nat) (X : XF) : Int32 := mk_keep (X 14) (X 15) (X 16) z5 (X 106 0) (X 110 0) (sp_on (X 12) z8)
def cn_1 (v z z5 z8 : Nat) (X : XF) : XL :=
  if fs_A X z = -1 then (if kp_A z5 z8 X = 0 then (if X 106 0 = -1 then (if X 107 0 ≤ nI (v + 1) then go_A v z X else h_A X 111 (-1)) else go_A v z X) else h_A X 109 (-1)) else h_A X (X 25 (fs_A X z).toNatClampNeg) (fs_A X z)
def cn_A (v z z5 z8 : Nat) (X : XF) : XL := t_A v (cn_1 v z z5 z8 X)
def ds_A (X : XF) (c : Int32) : XL := (pch 120 (si (si X 111 c) 112 (-1)), [88])
def fl_1 (X : XF) : XF := si X 106 (X 106 0 + 1)
def fl_un (X : XF) : Int32 := if absI (X 37 0 - X 37 1) ≤ 20 then 0 else X 116 0 + 1
def fl_2 (X : XF) : XF := si (fl_1 X) 116 (fl_un X)
def fl_far (X : XF) : Int32 := if absI (X 37 0) ≤ 100 then 0 else if absI (X 37 1) ≤ 100 then 0 else 1
def fl_A (X : XF) : XL :=
  if X 118 0 = 102 then (if fl_far X = 0 then (if fl_un X < 3 then (if X 106 0 + 1 < 60 then (fl_2 X, []) else (pch 111 (fl_2 X), [79])) else ds_A (fl_2 X) 114) else ds_A (fl_2 X) 100) else (fl_1 X, [])
def sc_1 (X : XF) : XF := sa X 5 (tk_fill (X 2) (X 3) (X 4) (X 6) (X 5) 3)
def sc_2 (z8 : Nat) (X : XF) : XF := if md_ic (X 118 0) = 0 then X else sa (sa X 10 (sp_wb (sp_on (sp_wa (X 10) (X 12) z8).2 z8) (X 106 0) (X 8) (X 9) (X 11) (sp_wa (X 10) (X 12) z8).1 (sp_wa (X 10) (X 12) z8).2 z8).1) 12 (sp_wb (sp_on (sp_wa (X 10) (X 12) z8).2 z8) (X 106 0) (X 8) (X 9) (X 11) (sp_wa (X 10) (X 12) z8).1 (sp_wa (X 10) (X 12) z8).2 z8).2
def sc_3 (z : Nat) (X : XF) : XF := sa (sa X 30 (lk_X X z).1) 31 (lk_X X z).2
def sc_4 (v z z5 z8 : Nat) (X : XF) : XL := if md_ic (X 118 0) = 0 then (if md_hl (X 118 0) = 0 then (X, []) else fl_A X) else cn_A v z z5 z8 X
def sc_5 (v : Nat) (X : XF) : XF := sa (si (si X 101 (nI (v + 1))) 104 (X 104 0 - X 21 ((v + 1) % 600))) 21 (upd (X 21) ((v + 1) % 600) 0)
def sc_A (v z z5 z8 : Nat) (X : XF) : XL := (sc_5 v (sc_4 v z z5 z8 (sc_3 z (sc_2 z8 (sc_1 X)))).1, (sc_4 v z z5 z8 (sc_3 z (sc_2 z8 (sc_1 X)))).2)
def sb_A (X : XF) : XL := if md_ic (X 118 0) = 0 then (X, []) else (pch 115 (si (si X 111 99) 112 (-1)), [83])
def bg_X (z z8 : Nat) (p1 p2 p3 : Int32) (X : XF) : XF := pch 99 (sa (sa (si (si (si (si (si (si (si X 106 p1) 107 (X 101 0 + p2)) 108 (X 101 0 + p3)) 109 0) 110 0) 113 45) 114 (-1)) 12 (sp_again (X 12) z8)) 33 (rl_end (X 33) z))
def rc_X (z z8 j : Nat) (X : XF) : XF := sa (pch 99 (sa (si (si X 106 (X 14 j)) 110 0) 33 (rl_end (X 33) z))) 12 (sp_undo (X 8) (X 12) (X 14 j) z8)
def xk_begin (st p1 p2 p3 : Int32) : Int32 := if inr (-600) (-10) p1 = 0 then 1 else if inr 0 5000 p2 = 0 then 1 else if inr p2 5000 p3 = 0 then 1 else if xk_pf st = 0 then 0 else 2
def xk_rec (f : Nat → Int32) (z5 : Nat) (st c p1 : Int32) : Int32 := if bel p1 (nI z5) = 0 then 1 else if md_ic st = 0 then 2 else if f p1.toNatClampNeg < c then 0 else 2
def xk_pass (s p1 : Int32) : Int32 := if inr 1 600 p1 = 0 then 1 else if s + p1 ≤ 100000 then 0 else 2
def ck_f (f : Nat → Int32) (s : Int64) : Nat → Int64
  | 0 => s
  | i + 1 => 31 * ck_f f s i + (f i).toInt64
def ck_X (X : XF) (z len : Nat) : Int64 := 31 * ck_f (X 31) (ck_f (X 5) (31 * (31 * 7 + (X 101 0).toInt64) + (X 106 0).toInt64) 3) z + (nI len).toInt64
def snd_X (X : XF) (t : List Nat) : Int32 := if md_hl (X 118 0) = 0 then (if tl_all X t = 0 then 0 else 1) else if X 117 0 = 0 then 0 else if inr (X 107 0) (X 108 0) (X 115 0) = 0 then 0 else if tl_all X t = 0 then 0 else 1
def ps_X (z z5 z8 v : Nat) (X : XF) : Nat → XF
  | 0 => X
  | i + 1 => (sc_A (v + i) z z5 z8 (ps_X z z5 z8 v X i)).1
def ps_K (z z5 z8 v : Nat) (X : XF) (K : KF) : Nat → KF
  | 0 => K
  | i + 1 => kLs (ps_K z z5 z8 v X K i) 0 (v + i) (sc_A (v + i) z z5 z8 (ps_X z z5 z8 v X i)).2
section
variable {G : MC} {X X' M M' : XF} {K K' : KF} {L : List (Nat × Value)} {k k' n n' pc : Nat} {stk : List Value}
theorem g_to (hX : X = X') (hK : K = K') (hk : k = k') (hn : n = n') (h : GH G (WX G X' M K') L k' n' pc stk) : GH G (WX G X M K) L k n pc stk := by subst hX hK hk hn; exact h
theorem g_toM (hM : M = M') (hK : K = K') (hk : k = k') (hn : n = n') (h : GH G (WX G X M' K') L k' n' pc stk) : GH G (WX G X M K) L k n pc stk := by subst hM hK hk hn; exact h
end
theorem si_eq (X : XF) (k : Nat) (v : Int32) : si X k v k = fun _ => v := if_pos rfl
theorem sa_eq (X : XF) (k : Nat) (f : Nat → Int32) : sa X k f k = f := if_pos rfl
/-- what a second leaves as it is -/
abbrev uS (k : Nat) : Prop := k ≠ 5 ∧ k ≠ 10 ∧ k ≠ 12 ∧ k ≠ 21 ∧ k ≠ 30 ∧ k ≠ 31 ∧ k ≠ 101 ∧ k ≠ 104 ∧ k ≠ 106 ∧ k ≠ 109 ∧ k ≠ 110 ∧ k ≠ 111 ∧ k ≠ 112 ∧ k ≠ 113 ∧ k ≠ 114 ∧ k ≠ 115 ∧ k ≠ 116 ∧ k ≠ 117 ∧ k ≠ 118 ∧ k ≠ 119
/-- what the count, the flight leave as it is -/
abbrev uC (k : Nat) : Prop := k ≠ 106 ∧ k ≠ 109 ∧ k ≠ 110 ∧ k ≠ 111 ∧ k ≠ 112 ∧ k ≠ 113 ∧ k ≠ 114 ∧ k ≠ 115 ∧ k ≠ 116 ∧ k ≠ 117 ∧ k ≠ 118 ∧ k ≠ 119
theorem h_A_k (X : XF) (a b : Int32) {k : Nat} (h : uC k) : (h_A X a b).1 k = X k := by
  unfold h_A
  split
  · show pch 104 (cd_stay X a b) k = X k
    rw [pch_k _ _ (by omega), cd_st _ _ _ (by omega)]
  · exact cd_st _ _ _ (by omega)
theorem go_1_k (X : XF) {k : Nat} (h : k ≠ 118 ∧ k ≠ 119) : (go_1 X).1 k = X k := by
  unfold go_1
  split
  · exact pch_k _ _ (by omega)
  · rfl
theorem go_2_k (X : XF) {k : Nat} (h : k ≠ 106 ∧ k ≠ 110) : go_2 X k = X k := by
  unfold go_2
  rw [si_ne _ _ h.2, si_ne _ _ h.1]
theorem go_3_k (v : Nat) (g : Int32) (X : XF) {k : Nat} (h : k ≠ 115 ∧ k ≠ 117 ∧ k ≠ 118 ∧ k ≠ 119) : go_3 v g X k = X k := by
  unfold go_3
  rw [pch_k _ _ (by omega), si_ne _ _ (by omega), si_ne _ _ (by omega)]
theorem go_A_k (v z : Nat) (X : XF) {k : Nat} (h : k ≠ 106 ∧ k ≠ 110 ∧ k ≠ 115 ∧ k ≠ 117 ∧ k ≠ 118 ∧ k ≠ 119) : (go_A v z X).1 k = X k := by
  unfold go_A
  split
  · split
    · show go_2 _ k = _
      rw [go_2_k _ (by omega), go_1_k _ (by omega)]
    · show go_3 _ _ _ k = _
      rw [go_3_k _ _ _ (by omega), go_2_k _ (by omega), go_1_k _ (by omega)]
  · show go_2 _ k = _
    rw [go_2_k _ (by omega), go_1_k _ (by omega)]
theorem cn_1_k (v z z5 z8 : Nat) (X : XF) {k : Nat} (h : uC k) : (cn_1 v z z5 z8 X).1 k = X k := by
  unfold cn_1
  repeat' split
  all_goals first | exact go_A_k _ _ _ (by omega) | exact h_A_k _ _ _ h
theorem cd_st3 (X : XF) (a b : Int32) (h1 : isCh (X 113 0)) (ha : isCh a) : isCh (cd_stay X a b 113 0) := by
  unfold cd_stay
  split
  · exact ha
  · exact h1
theorem cn_1_3 (v z z5 z8 : Nat) (X : XF) (h1 : isCh (X 113 0)) (hk : ∀ j, isCh (X 25 j)) : isCh ((cn_1 v z z5 z8 X).1 113 0) := by
  have hh : ∀ a b, isCh a → isCh ((h_A X a b).1 113 0) := fun a b ha => by
    unfold h_A
    split
    · show isCh (pch 104 (cd_stay X a b) 113 0)
      rw [pch_k _ _ (by decide)]
      exact cd_st3 X a b h1 ha
    · exact cd_st3 X a b h1 ha
  have hg : isCh ((go_A v z X).1 113 0) := by rw [go_A_k _ _ _ (by decide)]; exact h1
  unfold cn_1
  split
  · split
    · split
      · split
        · exact hg
        · exact hh 111 (-1) ⟨by decide, by decide⟩
      · exact hg
    · exact hh 109 (-1) ⟨by decide, by decide⟩
  · exact hh _ _ (hk _)
theorem t_A_k (v : Nat) (p : XL) {k : Nat} (h : k ≠ 111 ∧ k ≠ 112 ∧ k ≠ 118 ∧ k ≠ 119) : (t_A v p).1 k = p.1 k := by
  unfold t_A
  repeat' split
  all_goals first | rfl | (show pch _ _ k = _; rw [pch_k _ _ (by omega), si_ne _ _ (by omega), si_ne _ _ (by omega)])
theorem t_le (K : KF) (v : Nat) (p : XL) : (kLs K 0 v p.2).2.1 0 ≤ (kLs K 0 v (t_A v p).2).2.1 0 ∧ (kLs K 0 v p.2).2.1 4 ≤ (kLs K 0 v (t_A v p).2).2.1 4 ∧ (kLs K 0 v p.2).2.1 6 ≤ (kLs K 0 v (t_A v p).2).2.1 6 := by
  unfold t_A
  repeat' split
  all_goals first | exact ⟨Nat.le_refl _, Nat.le_refl _, Nat.le_refl _⟩ | (rw [kLs_app]; exact kLs_le0 v [83] _)
theorem fl_A_k (X : XF) {k : Nat} (h : uC k) : (fl_A X).1 k = X k := by
  have h1 : fl_1 X k = X k := si_ne _ _ (by omega)
  have h2 : fl_2 X k = X k := (si_ne _ _ (by omega)).trans h1
  unfold fl_A ds_A
  repeat' split
  all_goals first | exact h1 | exact h2 | (show pch _ _ k = _; first | (rw [pch_k _ _ (by omega)]; exact h2) | (rw [pch_k _ _ (by omega), si_ne _ _ (by omega), si_ne _ _ (by omega)]; exact h2))
theorem fl_A_3 (X : XF) : (fl_A X).1 113 = X 113 := by
  have h1 : fl_1 X 113 = X 113 := si_ne _ _ (by decide)
  have h2 : fl_2 X 113 = X 113 := (si_ne _ _ (by decide)).trans h1
  unfold fl_A ds_A
  repeat' split
  all_goals first | exact h1 | exact h2 | (show pch _ _ 113 = _; first | (rw [pch_k _ _ (by decide)]; exact h2) | (rw [pch_k _ _ (by decide), si_ne _ _ (by decide), si_ne _ _ (by decide)]; exact h2))
theorem sc_2_k (z8 : Nat) (X : XF) {k : Nat} (h : k ≠ 10 ∧ k ≠ 12) : sc_2 z8 X k = X k := by
  unfold sc_2
  split
  · rfl
  · rw [sa_ne _ _ h.2, sa_ne _ _ h.1]
theorem sc_3_k (z : Nat) (X : XF) {k : Nat} (h : k ≠ 30 ∧ k ≠ 31) : sc_3 z X k = X k := by
  unfold sc_3
  rw [sa_ne _ _ h.2, sa_ne _ _ h.1]
theorem sc_12 (z8 : Nat) (X : XF) {k : Nat} (h : k ≠ 5 ∧ k ≠ 10 ∧ k ≠ 12) : sc_2 z8 (sc_1 X) k = X k := by
  rw [sc_2_k _ _ (by omega)]
  exact sa_ne _ _ h.1
theorem sc_13 (z z8 : Nat) (X : XF) {k : Nat} (h : k ≠ 5 ∧ k ≠ 10 ∧ k ≠ 12 ∧ k ≠ 30 ∧ k ≠ 31) : sc_3 z (sc_2 z8 (sc_1 X)) k = X k := by
  rw [sc_3_k _ _ (by omega)]
  exact sc_12 _ _ (by omega)
theorem sc_4_k (v z z5 z8 : Nat) (X : XF) {k : Nat} (h : uC k) : (sc_4 v z z5 z8 X).1 k = X k := by
  unfold sc_4
  repeat' split
  all_goals first | rfl | exact fl_A_k X h | exact (t_A_k _ _ (by omega)).trans (cn_1_k _ _ _ _ _ h)
theorem sc_4_3 (v z z5 z8 : Nat) (X : XF) (h1 : isCh (X 113 0)) (hk : ∀ j, isCh (X 25 j)) : isCh ((sc_4 v z z5 z8 X).1 113 0) := by
  unfold sc_4
  repeat' split
  · exact h1
  · rw [fl_A_3]; exact h1
  · show isCh ((t_A v (cn_1 v z z5 z8 X)).1 113 0)
    rw [t_A_k _ _ (by decide)]
    exact cn_1_3 v z z5 z8 X h1 hk
theorem sc_5_k (v : Nat) (X : XF) {k : Nat} (h : k ≠ 21 ∧ k ≠ 101 ∧ k ≠ 104) : sc_5 v X k = X k := by
  unfold sc_5
  rw [sa_ne _ _ h.1, si_ne _ _ h.2.2, si_ne _ _ h.2.1]
theorem sc_A_k (v z z5 z8 : Nat) (X : XF) {k : Nat} (h : uS k) : (sc_A v z z5 z8 X).1 k = X k := by
  show sc_5 _ _ k = _
  rw [sc_5_k _ _ (by omega), sc_4_k _ _ _ _ _ (by omega), sc_13 _ _ _ (by omega)]
/-- what a second asks of the class's numbers -/
def okS (v z z5 z8 : Nat) (X : XF) : Prop := X 101 0 = nI v ∧ X 102 0 = nI z8 ∧ X 103 0 = nI z5 ∧ X 105 0 = nI z ∧ isCh (X 113 0) ∧ (∀ j, isCh (X 25 j)) ∧ ∀ j, j < z → okAb (X 25 j) (X 26 j)
theorem okS.same {v z z5 z8 : Nat} {X Y : XF} (h : okS v z z5 z8 X) (h1 : Y 101 = X 101) (h2 : Y 102 = X 102) (h3 : Y 103 = X 103) (h4 : Y 105 = X 105) (h5 : isCh (Y 113 0)) (h6 : Y 25 = X 25) (h7 : Y 26 = X 26) : okS v z z5 z8 Y := by
  obtain ⟨a1, a2, a3, a4, a5, a6, a7⟩ := h
  unfold okS
  rw [h1, h2, h3, h4, h6, h7]
  exact ⟨a1, a2, a3, a4, h5, a6, a7⟩
theorem okS.s2 {v z z5 z8 : Nat} {X : XF} (h : okS v z z5 z8 X) : okS v z z5 z8 (sc_2 z8 (sc_1 X)) := h.same (sc_12 _ _ (by decide)) (sc_12 _ _ (by decide)) (sc_12 _ _ (by decide)) (sc_12 _ _ (by decide)) (by rw [sc_12 _ _ (by decide)]; exact h.2.2.2.2.1) (sc_12 _ _ (by decide)) (sc_12 _ _ (by decide))
theorem okS.s3 {v z z5 z8 : Nat} {X : XF} (h : okS v z z5 z8 X) : okS v z z5 z8 (sc_3 z (sc_2 z8 (sc_1 X))) := h.same (sc_13 _ _ _ (by decide)) (sc_13 _ _ _ (by decide)) (sc_13 _ _ _ (by decide)) (sc_13 _ _ _ (by decide)) (by rw [sc_13 _ _ _ (by decide)]; exact h.2.2.2.2.1) (sc_13 _ _ _ (by decide)) (sc_13 _ _ _ (by decide))
theorem okS.next {v z z5 z8 : Nat} {X : XF} (h : okS v z z5 z8 X) : okS (v + 1) z z5 z8 (sc_A v z z5 z8 X).1 := by
  have h3 := h.s3
  obtain ⟨a1, a2, a3, a4, a5, a6, a7⟩ := h
  refine ⟨?_, ?_, ?_, ?_, ?_, ?_, ?_⟩
  · show sc_5 v (sc_4 v z z5 z8 (sc_3 z (sc_2 z8 (sc_1 X)))).1 101 0 = _
    unfold sc_5
    rw [sa_ne _ _ (by decide), si_ne _ _ (by decide), si_eq]
  · rw [sc_A_k _ _ _ _ _ (by decide)]; exact a2
  · rw [sc_A_k _ _ _ _ _ (by decide)]; exact a3
  · rw [sc_A_k _ _ _ _ _ (by decide)]; exact a4
  · show isCh (sc_5 v (sc_4 v z z5 z8 (sc_3 z (sc_2 z8 (sc_1 X)))).1 113 0)
    rw [sc_5_k _ _ (by decide)]
    exact sc_4_3 v z z5 z8 _ h3.2.2.2.2.1 h3.2.2.2.2.2.1
  · intro j
    rw [sc_A_k v z z5 z8 X (k := 25) (by decide)]
    exact a6 j
  · intro j hj
    rw [sc_A_k v z z5 z8 X (k := 25) (by decide), sc_A_k v z z5 z8 X (k := 26) (by decide)]
    exact a7 j hj
theorem okS.ps {v z z5 z8 : Nat} {X : XF} (h : okS v z z5 z8 X) : ∀ i, okS (v + i) z z5 z8 (ps_X z z5 z8 v X i)
  | 0 => h
  | i + 1 => (okS.ps h i).next
theorem ps_le (z z5 z8 v : Nat) (X : XF) (K : KF) (i : Nat) : ∀ n, (ps_K z z5 z8 v X K i).2.1 0 ≤ (ps_K z z5 z8 v X K (i + n)).2.1 0 ∧ (ps_K z z5 z8 v X K i).2.1 4 ≤ (ps_K z z5 z8 v X K (i + n)).2.1 4 ∧ (ps_K z z5 z8 v X K i).2.1 6 ≤ (ps_K z z5 z8 v X K (i + n)).2.1 6
  | 0 => ⟨Nat.le_refl _, Nat.le_refl _, Nat.le_refl _⟩
  | n + 1 => by
    have h1 := ps_le z z5 z8 v X K i n
    have h2 := kLs_le0 (v + (i + n)) (sc_A (v + (i + n)) z z5 z8 (ps_X z z5 z8 v X (i + n))).2 (ps_K z z5 z8 v X K (i + n))
    have e : ps_K z z5 z8 v X K (i + (n + 1)) = kLs (ps_K z z5 z8 v X K (i + n)) 0 (v + (i + n)) (sc_A (v + (i + n)) z z5 z8 (ps_X z z5 z8 v X (i + n))).2 := rfl
    rw [e]
    omega
theorem rl_first_cases (h s lo hi v b u : Nat → Int32) (c : Int32) : ∀ n i, rl_first h s lo hi v b u c n i = -1 ∨ ∃ j, i ≤ j ∧ j < i + n ∧ rl_first h s lo hi v b u c n i = nI j
  | 0, i => Or.inl rfl
  | n + 1, i => by
    have ih := rl_first_cases h s lo hi v b u c n (i + 1)
    have up : (rl_first h s lo hi v b u c n (i + 1) = -1 ∨ ∃ j, i ≤ j ∧ j < i + (n + 1) ∧ rl_first h s lo hi v b u c n (i + 1) = nI j) := by
      rcases ih with q | ⟨j, h1, h2, h3⟩
      · exact Or.inl q
      · exact Or.inr ⟨j, by omega, by omega, h3⟩
    unfold rl_first
    split
    · split
      · exact Or.inr ⟨i, Nat.le_refl i, by omega, rfl⟩
      · exact up
    · exact up
theorem cl_val_t (X : XF) (f g : Nat → Int32) (j : Nat) : cl_val (sa (sa X 30 f) 31 g) j = cl_val X j := rfl
theorem go_le (K : KF) (v z : Nat) (X : XF) : (kLs K 0 v (go_1 X).2).2.1 0 ≤ (kLs K 0 v (go_A v z X).2).2.1 0 ∧ (kLs K 0 v (go_1 X).2).2.1 4 ≤ (kLs K 0 v (go_A v z X).2).2.1 4 ∧ (kLs K 0 v (go_1 X).2).2.1 6 ≤ (kLs K 0 v (go_A v z X).2).2.1 6 := by
  unfold go_A
  repeat' split
  all_goals first | exact ⟨Nat.le_refl _, Nat.le_refl _, Nat.le_refl _⟩ | (rw [kLs_app]; exact kLs_le0 v [70] _)
theorem go_gd_bo (X : XF) (z : Nat) : isBo (go_gd X z) := rl_good_bo _ _ _ _ _ _ _ _ _ _ _
theorem fl_2_k (X : XF) {k : Nat} (h : k ≠ 106 ∧ k ≠ 116) : fl_2 X k = X k := (si_ne _ _ h.2).trans (si_ne _ _ h.1)
theorem inr_ix {p : Int32} (h : ¬ inr 1 600 p = 0) : ∃ n : Nat, 1 ≤ n ∧ n ≤ 600 ∧ p = nI n := by
  unfold inr at h
  by_cases h1 : p < 1
  · simp [h1] at h
  · by_cases h2 : 600 < p
    · simp [h1, h2] at h
    · have h0 : ¬ p < 0 := by
        rw [Int32.lt_iff_toInt_lt] at h1 ⊢
        have z0 : (0 : Int32).toInt = 0 := rfl
        have z1 : (1 : Int32).toInt = 1 := rfl
        omega
      obtain ⟨j, hj, ej⟩ := nI_of h0
      refine ⟨j, ?_, ?_, ej⟩
      · rw [ej, Int32.lt_iff_toInt_lt, nI_toInt hj] at h1
        have z1 : (1 : Int32).toInt = 1 := rfl
        omega
      · rw [ej, Int32.lt_iff_toInt_lt, nI_toInt hj] at h2
        have z1 : (600 : Int32).toInt = 600 := rfl
        omega
theorem kLs_1 (K : KF) (w v c : Nat) : kLs K w v [c] = kLg K w v c := rfl
theorem kLs_0 (K : KF) (w v : Nat) : kLs K w v [] = K := rfl

set_option maxHeartbeats 400000 in
set_option maxRecDepth 100000 in
/-- timesOf.timesOf -/
theorem c_X4_timesOf (l : Launch) (D : va_G) (cy : Nat → ClassId) (A : Nat → Prop) (ad sad : Nat → Nat) (X M : XF) (K : KF) (p1 : Int32) (hcap : K.2.1 0 < 2 ^ 26) (hlen : (K.2.2.1 0).length < 2 ^ 26) : Met l yX4_timesOf (wsA yX4_timesOf cX4_timesOf 4 (some .int)) ({ frames := 4, cells := 0, slots := 0, locals := 88 }) (PcW D cy A ad sad X M K [.ref (ad 38), .int p1]) (QiW D cy A ad (fun r X1 M1 K1 => r = tm_of (K.2.2.1 0) p1 (K.2.2.1 0).length ∧ X1 = X ∧ M1 = M ∧ K1 = K)) 0 0 A := by
  refine met_ofW [(0, .ref (ad 38)), (1, .int p1)] (by decide +kernel) (Nat.le_of_ble_eq_true rfl) rfl ?_
  intro G C hl hR hL hD hcy hA had hsa hr hQ
  subst hD hcy hA had hsa hl
  refine g_iconst C dX4_timesOf_0 (v := 0) (by decide) ?_
  refine g_istore_n C dX4_timesOf_1 (L' := [(2, .int 0), (0, .ref (gad G 38)), (1, .int p1)]) rfl (by rw [hL]; decide) ?_
  refine g_iconst C dX4_timesOf_2 (v := 0) (by decide) ?_
  refine g_istore_n C dX4_timesOf_3 (L' := [(3, .int 0), (2, .int 0), (0, .ref (gad G 38)), (1, .int p1)]) rfl (by rw [hL]; decide) ?_
  have lp4 : ∀ (n i : Nat) (a : Int32) (hi : i + n = (K.2.2.1 0).length) (ha : a = tm_of (K.2.2.1 0) p1 i), GH G (WX G X M K) [(0, .ref (gad G 38)), (1, .int p1), (2, .int a), (3, .int (nI i))] 0 0 4 [] := by
    intro n
    induction n with
    | zero =>
      intro i a hi ha
      obtain rfl : i = (K.2.2.1 0).length := by omega
      refine g_iload_n C dX4_timesOf_4 3 rfl ?_
      refine g_aload_n C dX4_timesOf_5 0 rfl ?_
      refine gf_X4_text C tw311 dX4_timesOf_6 ?_
      refine g_callViW C dX4_timesOf_9 (c_lenW0 _ _ _ _ _ _ _ _ _ hcap) tw1345 tw1093 tw1094 tw13 tw1095 (rv_J4_0 C) rfl ⟨by decide +kernel, by decide +kernel, rfl⟩ ⟨rfl, rfl⟩ (by rw [hR]; decide) (Nat.le_of_ble_eq_true rfl) (by rw [hR]; decide) (fun r_1 X1 M1 K1 h_2 => ?_)
      obtain ⟨rfl, hX1, hM1, hK1⟩ := h_2
      subst X1 M1 K1
      refine g_icmp_ge C dX4_timesOf_12 (tgt := 41) (by decide) (fun c_12 => ?_) (fun c_12 => absurd (nI_le (a := (K.2.2.1 0).length) (b := (K.2.2.1 0).length) (Nat.le_refl _) (by omega)) c_12)
      refine g_iload_n C dX4_timesOf_41 2 rfl ?_
      refine g_iretW C hr hQ (Nat.le_refl _) (Nat.le_refl _) dX4_timesOf_42 ?_
      exact ⟨(by first | with_reducible rfl | (subst ha; first | with_reducible rfl | (simp only [sa_ap, si_ap, si_sa, sa_sa, sa_3, sa_4, sa_5, sa_6, sa_7, sa_8, tm_of, up_us, up_up]; done) | (simp [sa_ap, si_ap, si_sa, sa_sa, sa_3, sa_4, sa_5, sa_6, sa_7, sa_8, tm_of, up_us, up_up]; done))), (by first | with_reducible rfl | (subst ha; first | with_reducible rfl | (simp only [sa_ap, si_ap, si_sa, sa_sa, sa_3, sa_4, sa_5, sa_6, sa_7, sa_8, tm_of, up_us, up_up]; done) | (simp [sa_ap, si_ap, si_sa, sa_sa, sa_3, sa_4, sa_5, sa_6, sa_7, sa_8, tm_of, up_us, up_up]; done))), rfl, rfl⟩
    | succ n ih =>
      intro i a hi ha
      refine g_iload_n C dX4_timesOf_4 3 rfl ?_
      refine g_aload_n C dX4_timesOf_5 0 rfl ?_
      refine gf_X4_text C tw311 dX4_timesOf_6 ?_
      refine g_callViW C dX4_timesOf_9 (c_lenW0 _ _ _ _ _ _ _ _ _ hcap) tw1345 tw1093 tw1094 tw13 tw1095 (rv_J4_0 C) rfl ⟨by decide +kernel, by decide +kernel, rfl⟩ ⟨rfl, rfl⟩ (by rw [hR]; decide) (Nat.le_of_ble_eq_true rfl) (by rw [hR]; decide) (fun r_3 X1 M1 K1 h_4 => ?_)
      obtain ⟨rfl, hX1, hM1, hK1⟩ := h_4
      subst X1 M1 K1
      refine g_icmp_ge C dX4_timesOf_12 (tgt := 41) (by decide) (fun c_12 => absurd c_12 (nI_ge (a := i) (b := (K.2.2.1 0).length) (by omega) (by omega))) (fun c_12 => ?_)
      refine g_iload_n C dX4_timesOf_15 2 rfl ?_
      refine g_aload_n C dX4_timesOf_16 0 rfl ?_
      refine gf_X4_text C tw311 dX4_timesOf_17 ?_
      refine g_iload_n C dX4_timesOf_20 3 rfl ?_
      refine g_callViW C dX4_timesOf_21 (c_chW0 _ _ _ _ _ _ _ _ _ i (by omega) (by omega)) tw1346 tw1101 tw1102 tw13 tw1103 (rv_J4_0 C) rfl ⟨by decide +kernel, by decide +kernel, rfl⟩ ⟨rfl, rfl⟩ (by rw [hR]; decide) (Nat.le_of_ble_eq_true rfl) (by rw [hR]; decide) (fun r_5 X1 M1 K1 h_6 => ?_)
      obtain ⟨ech, hX1, hM1, hK1⟩ := h_6
      subst X1 M1 K1
      rw [List.getD_eq_getElem?_getD] at ech
      refine g_iload_n C dX4_timesOf_24 1 rfl ?_
      refine g_icmp_ne C dX4_timesOf_25 (tgt := 32) (by decide) (fun c_25 => ?_) (fun c_25 => ?_)
      · try simp only [sa_ap, si_ap, reduceIte, Nat.reduceEqDiff, up_us, lg_cmp_lt, lg_cmp_gt, lg_cmp_le, lg_cmp_ge] at c_25
        rw [ech] at c_25
        refine g_iconst C dX4_timesOf_32 (v := 0) (by decide) ?_
        refine g_iadd C dX4_timesOf_33 ?_
        refine g_namei (fun v_7 ev_7 => ?_)
        refine g_istore_n C dX4_timesOf_34 (L' := [(2, .int v_7), (0, .ref (gad G 38)), (1, .int p1), (3, .int (nI i))]) rfl (by rw [hL]; decide) ?_
        refine g_iinc C dX4_timesOf_35 3 rfl (v := nI (i + 1)) (nI_1 _) (L' := [(3, .int (nI (i + 1))), (2, .int v_7), (0, .ref (gad G 38)), (1, .int p1)]) rfl (by rw [hL]; decide) ?_
        refine g_goto C dX4_timesOf_38 (tgt := 4) (by decide) ?_
        exact g_sub [2, 3, 1, 0] rfl (ih (i + 1) _ (by omega) (by first | with_reducible rfl | (subst ha ev_7; first | with_reducible rfl | (simp only [sa_ap, si_ap, si_sa, sa_sa, sa_3, sa_4, sa_5, sa_6, sa_7, sa_8, tm_of, up_us, up_up, c_25]; done) | (simp [sa_ap, si_ap, si_sa, sa_sa, sa_3, sa_4, sa_5, sa_6, sa_7, sa_8, tm_of, up_us, up_up, c_25]; done))))
      · try simp only [sa_ap, si_ap, reduceIte, Nat.reduceEqDiff, up_us, lg_cmp_lt, lg_cmp_gt, lg_cmp_le, lg_cmp_ge] at c_25
        rw [ech] at c_25
        refine g_iconst C dX4_timesOf_28 (v := 1) (by decide) ?_
        refine g_goto C dX4_timesOf_29 (tgt := 33) (by decide) ?_
        refine g_iadd C dX4_timesOf_33 ?_
        refine g_namei (fun v_8 ev_8 => ?_)
        refine g_istore_n C dX4_timesOf_34 (L' := [(2, .int v_8), (0, .ref (gad G 38)), (1, .int p1), (3, .int (nI i))]) rfl (by rw [hL]; decide) ?_
        refine g_iinc C dX4_timesOf_35 3 rfl (v := nI (i + 1)) (nI_1 _) (L' := [(3, .int (nI (i + 1))), (2, .int v_8), (0, .ref (gad G 38)), (1, .int p1)]) rfl (by rw [hL]; decide) ?_
        refine g_goto C dX4_timesOf_38 (tgt := 4) (by decide) ?_
        exact g_sub [2, 3, 1, 0] rfl (ih (i + 1) _ (by omega) (by first | with_reducible rfl | (subst ha ev_8; first | with_reducible rfl | (simp only [sa_ap, si_ap, si_sa, sa_sa, sa_3, sa_4, sa_5, sa_6, sa_7, sa_8, tm_of, up_us, up_up, c_25]; done) | (simp [sa_ap, si_ap, si_sa, sa_sa, sa_3, sa_4, sa_5, sa_6, sa_7, sa_8, tm_of, up_us, up_up, c_25]; done))))
  exact g_sub [2, 3, 1, 0] rfl (lp4 ((K.2.2.1 0).length) 0 _ (by omega) (by first | with_reducible rfl | (first | with_reducible rfl | (simp only [sa_ap, si_ap, si_sa, sa_sa, sa_3, sa_4, sa_5, sa_6, sa_7, sa_8, tm_of, up_us, up_up]; done) | (simp [sa_ap, si_ap, si_sa, sa_sa, sa_3, sa_4, sa_5, sa_6, sa_7, sa_8, tm_of, up_us, up_up]; done))))

set_option maxHeartbeats 400000 in
set_option maxRecDepth 100000 in
/-- stateBehind.stateBehind -/
theorem c_X4_stateBehind (l : Launch) (D : va_G) (cy : Nat → ClassId) (A : Nat → Prop) (ad sad : Nat → Nat) (X M : XF) (K : KF) (p1 : Int32) : Met l yX4_stateBehind (wsA yX4_stateBehind cX4_stateBehind 1 (some .char)) ({ frames := 0, cells := 0, slots := 0, locals := 0 }) (PcW D cy A ad sad X M K [.int p1]) (QiW D cy A ad (fun r X1 M1 K1 => r = st_of p1 ∧ X1 = X ∧ M1 = M ∧ K1 = K)) 0 0 A := by
  refine met_ofW [(0, .int p1)] (by decide +kernel) (Nat.le_of_ble_eq_true rfl) rfl ?_
  intro G C hl hR hL hD hcy hA had hsa hr hQ
  subst hD hcy hA had hsa hl
  refine g_iload_n C dX4_stateBehind_0 0 rfl ?_
  refine g_bipush C dX4_stateBehind_1 (v := 67) (by decide) ?_
  refine g_icmp_eq C dX4_stateBehind_3 (tgt := 18) (by decide) (fun c_3 => ?_) (fun c_3 => ?_)
  · try simp only [sa_ap, si_ap, reduceIte, Nat.reduceEqDiff, up_us, lg_cmp_lt, lg_cmp_gt, lg_cmp_le, lg_cmp_ge] at c_3
    refine g_bipush C dX4_stateBehind_18 (v := 99) (by decide) ?_
    refine g_zretW C hr (by decide) hQ (Nat.le_refl _) (Nat.le_refl _) dX4_stateBehind_20 ?_
    exact ⟨(by first | with_reducible rfl | (first | with_reducible rfl | (simp only [sa_ap, si_ap, si_sa, sa_sa, sa_3, sa_4, sa_5, sa_6, sa_7, sa_8, st_of, up_us, up_up, c_3]; done) | (simp [sa_ap, si_ap, si_sa, sa_sa, sa_3, sa_4, sa_5, sa_6, sa_7, sa_8, st_of, up_us, up_up, c_3]; done))), (by first | with_reducible rfl | (first | with_reducible rfl | (simp only [sa_ap, si_ap, si_sa, sa_sa, sa_3, sa_4, sa_5, sa_6, sa_7, sa_8, st_of, up_us, up_up, c_3]; done) | (simp [sa_ap, si_ap, si_sa, sa_sa, sa_3, sa_4, sa_5, sa_6, sa_7, sa_8, st_of, up_us, up_up, c_3]; done))), rfl, rfl⟩
  · try simp only [sa_ap, si_ap, reduceIte, Nat.reduceEqDiff, up_us, lg_cmp_lt, lg_cmp_gt, lg_cmp_le, lg_cmp_ge] at c_3
    refine g_iload_n C dX4_stateBehind_6 0 rfl ?_
    refine g_bipush C dX4_stateBehind_7 (v := 71) (by decide) ?_
    refine g_icmp_eq C dX4_stateBehind_9 (tgt := 18) (by decide) (fun c_9 => ?_) (fun c_9 => ?_)
    · try simp only [sa_ap, si_ap, reduceIte, Nat.reduceEqDiff, up_us, lg_cmp_lt, lg_cmp_gt, lg_cmp_le, lg_cmp_ge] at c_9
      refine g_bipush C dX4_stateBehind_18 (v := 99) (by decide) ?_
      refine g_zretW C hr (by decide) hQ (Nat.le_refl _) (Nat.le_refl _) dX4_stateBehind_20 ?_
      exact ⟨(by first | with_reducible rfl | (first | with_reducible rfl | (simp only [sa_ap, si_ap, si_sa, sa_sa, sa_3, sa_4, sa_5, sa_6, sa_7, sa_8, st_of, up_us, up_up, c_3, c_9]; done) | (simp [sa_ap, si_ap, si_sa, sa_sa, sa_3, sa_4, sa_5, sa_6, sa_7, sa_8, st_of, up_us, up_up, c_3, c_9]; done))), (by first | with_reducible rfl | (first | with_reducible rfl | (simp only [sa_ap, si_ap, si_sa, sa_sa, sa_3, sa_4, sa_5, sa_6, sa_7, sa_8, st_of, up_us, up_up, c_3, c_9]; done) | (simp [sa_ap, si_ap, si_sa, sa_sa, sa_3, sa_4, sa_5, sa_6, sa_7, sa_8, st_of, up_us, up_up, c_3, c_9]; done))), rfl, rfl⟩
    · try simp only [sa_ap, si_ap, reduceIte, Nat.reduceEqDiff, up_us, lg_cmp_lt, lg_cmp_gt, lg_cmp_le, lg_cmp_ge] at c_9
      refine g_iload_n C dX4_stateBehind_12 0 rfl ?_
      refine g_bipush C dX4_stateBehind_13 (v := 82) (by decide) ?_
      refine g_icmp_ne C dX4_stateBehind_15 (tgt := 21) (by decide) (fun c_15 => ?_) (fun c_15 => ?_)
      · try simp only [sa_ap, si_ap, reduceIte, Nat.reduceEqDiff, up_us, lg_cmp_lt, lg_cmp_gt, lg_cmp_le, lg_cmp_ge] at c_15
        refine g_iload_n C dX4_stateBehind_21 0 rfl ?_
        refine g_bipush C dX4_stateBehind_22 (v := 72) (by decide) ?_
        refine g_icmp_ne C dX4_stateBehind_24 (tgt := 30) (by decide) (fun c_24 => ?_) (fun c_24 => ?_)
        · try simp only [sa_ap, si_ap, reduceIte, Nat.reduceEqDiff, up_us, lg_cmp_lt, lg_cmp_gt, lg_cmp_le, lg_cmp_ge] at c_24
          refine g_iload_n C dX4_stateBehind_30 0 rfl ?_
          refine g_bipush C dX4_stateBehind_31 (v := 83) (by decide) ?_
          refine g_icmp_ne C dX4_stateBehind_33 (tgt := 39) (by decide) (fun c_33 => ?_) (fun c_33 => ?_)
          · try simp only [sa_ap, si_ap, reduceIte, Nat.reduceEqDiff, up_us, lg_cmp_lt, lg_cmp_gt, lg_cmp_le, lg_cmp_ge] at c_33
            refine g_iload_n C dX4_stateBehind_39 0 rfl ?_
            refine g_bipush C dX4_stateBehind_40 (v := 70) (by decide) ?_
            refine g_icmp_ne C dX4_stateBehind_42 (tgt := 48) (by decide) (fun c_42 => ?_) (fun c_42 => ?_)
            · try simp only [sa_ap, si_ap, reduceIte, Nat.reduceEqDiff, up_us, lg_cmp_lt, lg_cmp_gt, lg_cmp_le, lg_cmp_ge] at c_42
              refine g_iload_n C dX4_stateBehind_48 0 rfl ?_
              refine g_bipush C dX4_stateBehind_49 (v := 88) (by decide) ?_
              refine g_icmp_ne C dX4_stateBehind_51 (tgt := 59) (by decide) (fun c_51 => ?_) (fun c_51 => ?_)
              · try simp only [sa_ap, si_ap, reduceIte, Nat.reduceEqDiff, up_us, lg_cmp_lt, lg_cmp_gt, lg_cmp_le, lg_cmp_ge] at c_51
                refine g_bipush C dX4_stateBehind_59 (v := 111) (by decide) ?_
                refine g_zretW C hr (by decide) hQ (Nat.le_refl _) (Nat.le_refl _) dX4_stateBehind_61 ?_
                exact ⟨(by first | with_reducible rfl | (first | with_reducible rfl | (simp only [sa_ap, si_ap, si_sa, sa_sa, sa_3, sa_4, sa_5, sa_6, sa_7, sa_8, st_of, up_us, up_up, c_3, c_9, c_15, c_24, c_33, c_42, c_51]; done) | (simp [sa_ap, si_ap, si_sa, sa_sa, sa_3, sa_4, sa_5, sa_6, sa_7, sa_8, st_of, up_us, up_up, c_3, c_9, c_15, c_24, c_33, c_42, c_51]; done))), (by first | with_reducible rfl | (first | with_reducible rfl | (simp only [sa_ap, si_ap, si_sa, sa_sa, sa_3, sa_4, sa_5, sa_6, sa_7, sa_8, st_of, up_us, up_up, c_3, c_9, c_15, c_24, c_33, c_42, c_51]; done) | (simp [sa_ap, si_ap, si_sa, sa_sa, sa_3, sa_4, sa_5, sa_6, sa_7, sa_8, st_of, up_us, up_up, c_3, c_9, c_15, c_24, c_33, c_42, c_51]; done))), rfl, rfl⟩
              · try simp only [sa_ap, si_ap, reduceIte, Nat.reduceEqDiff, up_us, lg_cmp_lt, lg_cmp_gt, lg_cmp_le, lg_cmp_ge] at c_51
                refine g_bipush C dX4_stateBehind_54 (v := 120) (by decide) ?_
                refine g_goto C dX4_stateBehind_56 (tgt := 61) (by decide) ?_
                refine g_zretW C hr (by decide) hQ (Nat.le_refl _) (Nat.le_refl _) dX4_stateBehind_61 ?_
                exact ⟨(by first | with_reducible rfl | (first | with_reducible rfl | (simp only [sa_ap, si_ap, si_sa, sa_sa, sa_3, sa_4, sa_5, sa_6, sa_7, sa_8, st_of, up_us, up_up, c_3, c_9, c_15, c_24, c_33, c_42, c_51]; done) | (simp [sa_ap, si_ap, si_sa, sa_sa, sa_3, sa_4, sa_5, sa_6, sa_7, sa_8, st_of, up_us, up_up, c_3, c_9, c_15, c_24, c_33, c_42, c_51]; done))), (by first | with_reducible rfl | (first | with_reducible rfl | (simp only [sa_ap, si_ap, si_sa, sa_sa, sa_3, sa_4, sa_5, sa_6, sa_7, sa_8, st_of, up_us, up_up, c_3, c_9, c_15, c_24, c_33, c_42, c_51]; done) | (simp [sa_ap, si_ap, si_sa, sa_sa, sa_3, sa_4, sa_5, sa_6, sa_7, sa_8, st_of, up_us, up_up, c_3, c_9, c_15, c_24, c_33, c_42, c_51]; done))), rfl, rfl⟩
            · try simp only [sa_ap, si_ap, reduceIte, Nat.reduceEqDiff, up_us, lg_cmp_lt, lg_cmp_gt, lg_cmp_le, lg_cmp_ge] at c_42
              refine g_bipush C dX4_stateBehind_45 (v := 102) (by decide) ?_
              refine g_zretW C hr (by decide) hQ (Nat.le_refl _) (Nat.le_refl _) dX4_stateBehind_47 ?_
              exact ⟨(by first | with_reducible rfl | (first | with_reducible rfl | (simp only [sa_ap, si_ap, si_sa, sa_sa, sa_3, sa_4, sa_5, sa_6, sa_7, sa_8, st_of, up_us, up_up, c_3, c_9, c_15, c_24, c_33, c_42]; done) | (simp [sa_ap, si_ap, si_sa, sa_sa, sa_3, sa_4, sa_5, sa_6, sa_7, sa_8, st_of, up_us, up_up, c_3, c_9, c_15, c_24, c_33, c_42]; done))), (by first | with_reducible rfl | (first | with_reducible rfl | (simp only [sa_ap, si_ap, si_sa, sa_sa, sa_3, sa_4, sa_5, sa_6, sa_7, sa_8, st_of, up_us, up_up, c_3, c_9, c_15, c_24, c_33, c_42]; done) | (simp [sa_ap, si_ap, si_sa, sa_sa, sa_3, sa_4, sa_5, sa_6, sa_7, sa_8, st_of, up_us, up_up, c_3, c_9, c_15, c_24, c_33, c_42]; done))), rfl, rfl⟩
          · try simp only [sa_ap, si_ap, reduceIte, Nat.reduceEqDiff, up_us, lg_cmp_lt, lg_cmp_gt, lg_cmp_le, lg_cmp_ge] at c_33
            refine g_bipush C dX4_stateBehind_36 (v := 115) (by decide) ?_
            refine g_zretW C hr (by decide) hQ (Nat.le_refl _) (Nat.le_refl _) dX4_stateBehind_38 ?_
            exact ⟨(by first | with_reducible rfl | (first | with_reducible rfl | (simp only [sa_ap, si_ap, si_sa, sa_sa, sa_3, sa_4, sa_5, sa_6, sa_7, sa_8, st_of, up_us, up_up, c_3, c_9, c_15, c_24, c_33]; done) | (simp [sa_ap, si_ap, si_sa, sa_sa, sa_3, sa_4, sa_5, sa_6, sa_7, sa_8, st_of, up_us, up_up, c_3, c_9, c_15, c_24, c_33]; done))), (by first | with_reducible rfl | (first | with_reducible rfl | (simp only [sa_ap, si_ap, si_sa, sa_sa, sa_3, sa_4, sa_5, sa_6, sa_7, sa_8, st_of, up_us, up_up, c_3, c_9, c_15, c_24, c_33]; done) | (simp [sa_ap, si_ap, si_sa, sa_sa, sa_3, sa_4, sa_5, sa_6, sa_7, sa_8, st_of, up_us, up_up, c_3, c_9, c_15, c_24, c_33]; done))), rfl, rfl⟩
        · try simp only [sa_ap, si_ap, reduceIte, Nat.reduceEqDiff, up_us, lg_cmp_lt, lg_cmp_gt, lg_cmp_le, lg_cmp_ge] at c_24
          refine g_bipush C dX4_stateBehind_27 (v := 104) (by decide) ?_
          refine g_zretW C hr (by decide) hQ (Nat.le_refl _) (Nat.le_refl _) dX4_stateBehind_29 ?_
          exact ⟨(by first | with_reducible rfl | (first | with_reducible rfl | (simp only [sa_ap, si_ap, si_sa, sa_sa, sa_3, sa_4, sa_5, sa_6, sa_7, sa_8, st_of, up_us, up_up, c_3, c_9, c_15, c_24]; done) | (simp [sa_ap, si_ap, si_sa, sa_sa, sa_3, sa_4, sa_5, sa_6, sa_7, sa_8, st_of, up_us, up_up, c_3, c_9, c_15, c_24]; done))), (by first | with_reducible rfl | (first | with_reducible rfl | (simp only [sa_ap, si_ap, si_sa, sa_sa, sa_3, sa_4, sa_5, sa_6, sa_7, sa_8, st_of, up_us, up_up, c_3, c_9, c_15, c_24]; done) | (simp [sa_ap, si_ap, si_sa, sa_sa, sa_3, sa_4, sa_5, sa_6, sa_7, sa_8, st_of, up_us, up_up, c_3, c_9, c_15, c_24]; done))), rfl, rfl⟩
      · try simp only [sa_ap, si_ap, reduceIte, Nat.reduceEqDiff, up_us, lg_cmp_lt, lg_cmp_gt, lg_cmp_le, lg_cmp_ge] at c_15
        refine g_bipush C dX4_stateBehind_18 (v := 99) (by decide) ?_
        refine g_zretW C hr (by decide) hQ (Nat.le_refl _) (Nat.le_refl _) dX4_stateBehind_20 ?_
        exact ⟨(by first | with_reducible rfl | (first | with_reducible rfl | (simp only [sa_ap, si_ap, si_sa, sa_sa, sa_3, sa_4, sa_5, sa_6, sa_7, sa_8, st_of, up_us, up_up, c_3, c_9, c_15]; done) | (simp [sa_ap, si_ap, si_sa, sa_sa, sa_3, sa_4, sa_5, sa_6, sa_7, sa_8, st_of, up_us, up_up, c_3, c_9, c_15]; done))), (by first | with_reducible rfl | (first | with_reducible rfl | (simp only [sa_ap, si_ap, si_sa, sa_sa, sa_3, sa_4, sa_5, sa_6, sa_7, sa_8, st_of, up_us, up_up, c_3, c_9, c_15]; done) | (simp [sa_ap, si_ap, si_sa, sa_sa, sa_3, sa_4, sa_5, sa_6, sa_7, sa_8, st_of, up_us, up_up, c_3, c_9, c_15]; done))), rfl, rfl⟩

set_option maxHeartbeats 400000 in
set_option maxRecDepth 100000 in
/-- lastTold.lastTold -/
theorem c_X4_lastTold (l : Launch) (D : va_G) (cy : Nat → ClassId) (A : Nat → Prop) (ad sad : Nat → Nat) (X M : XF) (K : KF) (hcap : K.2.1 0 < 2 ^ 26) (hlen : (K.2.2.1 0).length < 2 ^ 26) : Met l yX4_lastTold (wsA yX4_lastTold cX4_lastTold 2 (some .char)) ({ frames := 4, cells := 0, slots := 0, locals := 88 }) (PcW D cy A ad sad X M K [.ref (ad 38)]) (QiW D cy A ad (fun r X1 M1 K1 => r = st_last (K.2.2.1 0) ∧ X1 = X ∧ M1 = M ∧ K1 = K)) 0 0 A := by
  refine met_ofW [(0, .ref (ad 38))] (by decide +kernel) (Nat.le_of_ble_eq_true rfl) rfl ?_
  intro G C hl hR hL hD hcy hA had hsa hr hQ
  subst hD hcy hA had hsa hl
  refine g_aload_n C dX4_lastTold_0 0 rfl ?_
  refine gf_X4_text C tw311 dX4_lastTold_1 ?_
  refine g_callViW C dX4_lastTold_4 (c_lenW0 _ _ _ _ _ _ _ _ _ hcap) tw1345 tw1093 tw1094 tw13 tw1095 (rv_J4_0 C) rfl ⟨by decide +kernel, by decide +kernel, rfl⟩ ⟨rfl, rfl⟩ (by rw [hR]; decide) (Nat.le_of_ble_eq_true rfl) (by rw [hR]; decide) (fun r_1 X1 M1 K1 h_2 => ?_)
  obtain ⟨rfl, hX1, hM1, hK1⟩ := h_2
  subst X1 M1 K1
  refine g_istore_n C dX4_lastTold_7 (L' := [(1, .int (nI (K.2.2.1 0).length)), (0, .ref (gad G 38))]) rfl (by rw [hL]; decide) ?_
  refine g_iload_n C dX4_lastTold_8 0 rfl ?_
  refine g_iconst C dX4_lastTold_9 (v := 2) (by decide) ?_
  refine g_icmp_ge C dX4_lastTold_10 (tgt := 18) (by decide) (fun c_10 => ?_) (fun c_10 => ?_)
  · try simp only [sa_ap, si_ap, reduceIte, Nat.reduceEqDiff, up_us, lg_cmp_lt, lg_cmp_gt, lg_cmp_le, lg_cmp_ge] at c_10
    have h2 := nI_2 c_10
    refine g_aload_n C dX4_lastTold_18 1 rfl ?_
    refine gf_X4_text C tw311 dX4_lastTold_19 ?_
    refine g_iload_n C dX4_lastTold_22 0 rfl ?_
    refine g_iconst C dX4_lastTold_23 (v := 2) (by decide) ?_
    refine g_isub C dX4_lastTold_24 ?_
    refine g_topi h2 ?_
    refine g_callViW C dX4_lastTold_25 (c_chW0 _ _ _ _ _ _ _ _ _ ((K.2.2.1 0).length - 2) (len_2 c_10) hcap) tw1346 tw1101 tw1102 tw13 tw1103 (rv_J4_0 C) rfl ⟨by decide +kernel, by decide +kernel, rfl⟩ ⟨rfl, rfl⟩ (by rw [hR]; decide) (Nat.le_of_ble_eq_true rfl) (by rw [hR]; decide) (fun r_3 X1 M1 K1 h_4 => ?_)
    obtain ⟨rfl, hX1, hM1, hK1⟩ := h_4
    subst X1 M1 K1
    refine g_callSiW C dX4_lastTold_28 (c_X4_stateBehind _ _ _ _ _ _ _ _ _ _) tw1364 tw1365 tw11 tw1366 rfl ⟨by decide +kernel, by decide +kernel, rfl⟩ ⟨rfl, rfl⟩ (by rw [hR]; decide) (Nat.le_of_ble_eq_true rfl) (by rw [hR]; decide) (fun r_5 X1 M1 K1 h_6 => ?_)
    obtain ⟨er_5, hX1, hM1, hK1⟩ := h_6
    subst X1 M1 K1
    try simp only [sa_ap, si_ap, reduceIte, Nat.reduceEqDiff] at er_5
    refine g_zretW C hr (by first | decide | (subst er_5; exact (st_of_ch _).1)) hQ (Nat.le_refl _) (Nat.le_refl _) dX4_lastTold_31 ?_
    exact ⟨(by first | with_reducible rfl | (subst er_5; first | with_reducible rfl | (simp only [sa_ap, si_ap, si_sa, sa_sa, sa_3, sa_4, sa_5, sa_6, sa_7, sa_8, st_last, up_us, up_up, c_10]; done) | (simp [sa_ap, si_ap, si_sa, sa_sa, sa_3, sa_4, sa_5, sa_6, sa_7, sa_8, st_last, up_us, up_up, c_10]; done))), (by first | with_reducible rfl | (subst er_5; first | with_reducible rfl | (simp only [sa_ap, si_ap, si_sa, sa_sa, sa_3, sa_4, sa_5, sa_6, sa_7, sa_8, st_last, up_us, up_up, c_10]; done) | (simp [sa_ap, si_ap, si_sa, sa_sa, sa_3, sa_4, sa_5, sa_6, sa_7, sa_8, st_last, up_us, up_up, c_10]; done))), rfl, rfl⟩
  · try simp only [sa_ap, si_ap, reduceIte, Nat.reduceEqDiff, up_us, lg_cmp_lt, lg_cmp_gt, lg_cmp_le, lg_cmp_ge] at c_10
    refine g_bipush C dX4_lastTold_13 (v := 45) (by decide) ?_
    refine g_goto C dX4_lastTold_15 (tgt := 31) (by decide) ?_
    refine g_zretW C hr (by first | decide | (subst e45; exact (st_of_ch _).1)) hQ (Nat.le_refl _) (Nat.le_refl _) dX4_lastTold_31 ?_
    exact ⟨(by first | with_reducible rfl | (first | with_reducible rfl | (simp only [sa_ap, si_ap, si_sa, sa_sa, sa_3, sa_4, sa_5, sa_6, sa_7, sa_8, st_last, up_us, up_up, c_10]; done) | (simp [sa_ap, si_ap, si_sa, sa_sa, sa_3, sa_4, sa_5, sa_6, sa_7, sa_8, st_last, up_us, up_up, c_10]; done))), (by first | with_reducible rfl | (first | with_reducible rfl | (simp only [sa_ap, si_ap, si_sa, sa_sa, sa_3, sa_4, sa_5, sa_6, sa_7, sa_8, st_last, up_us, up_up, c_10]; done) | (simp [sa_ap, si_ap, si_sa, sa_sa, sa_3, sa_4, sa_5, sa_6, sa_7, sa_8, st_last, up_us, up_up, c_10]; done))), rfl, rfl⟩

set_option maxHeartbeats 400000 in
set_option maxRecDepth 100000 in
/-- tellsAll.tellsAll -/
theorem c_X4_tellsAll (l : Launch) (D : va_G) (cy : Nat → ClassId) (A : Nat → Prop) (ad sad : Nat → Nat) (X M : XF) (K : KF) (hcap : K.2.1 0 < 2 ^ 26) (hlen : (K.2.2.1 0).length < 2 ^ 26) : Met l yX4_tellsAll (wsA yX4_tellsAll cX4_tellsAll 1 (some .boolean)) ({ frames := 5, cells := 0, slots := 0, locals := 111 }) (PcW D cy A ad sad X M K [.ref (ad 38)]) (QiW D cy A ad (fun r X1 M1 K1 => r = tl_all X (K.2.2.1 0) ∧ X1 = X ∧ M1 = M ∧ K1 = K)) 0 0 A := by
  refine met_ofW [(0, .ref (ad 38))] (by decide +kernel) (Nat.le_of_ble_eq_true rfl) rfl ?_
  intro G C hl hR hL hD hcy hA had hsa hr hQ
  subst hD hcy hA had hsa hl
  refine g_aload_n C dX4_tellsAll_0 0 rfl ?_
  refine g_bipush C dX4_tellsAll_1 (v := 59) (by decide) ?_
  refine g_callViW C dX4_tellsAll_3 (c_X4_timesOf _ _ _ _ _ _ _ _ _ _ (by assumption) (by assumption)) tw1359 tw1342 tw1343 tw11 tw1344 (rv_X4 C) rfl ⟨by decide +kernel, by decide +kernel, rfl⟩ ⟨rfl, rfl⟩ (by rw [hR]; decide) (Nat.le_of_ble_eq_true rfl) (by rw [hR]; decide) (fun r_1 X1 M1 K1 h_2 => ?_)
  obtain ⟨er_1, hX1, hM1, hK1⟩ := h_2
  subst X1 M1 K1
  try simp only [sa_ap, si_ap, reduceIte, Nat.reduceEqDiff] at er_1
  refine g_aload_n C dX4_tellsAll_6 0 rfl ?_
  refine gf_X4_changes C tw315 dX4_tellsAll_7 ?_
  refine g_icmp_ne C dX4_tellsAll_10 (tgt := 28) (by decide) (fun c_10 => ?_) (fun c_10 => ?_)
  · try simp only [sa_ap, si_ap, reduceIte, Nat.reduceEqDiff, up_us, lg_cmp_lt, lg_cmp_gt, lg_cmp_le, lg_cmp_ge] at c_10
    refine g_iconst C dX4_tellsAll_28 (v := 0) (by decide) ?_
    refine g_zretW C hr (by decide) hQ (Nat.le_refl _) (Nat.le_refl _) dX4_tellsAll_29 ?_
    exact ⟨(by first | with_reducible rfl | (subst er_1; first | with_reducible rfl | (simp only [sa_ap, si_ap, si_sa, sa_sa, sa_3, sa_4, sa_5, sa_6, sa_7, sa_8, tl_all, up_us, up_up, c_10]; done) | (simp [sa_ap, si_ap, si_sa, sa_sa, sa_3, sa_4, sa_5, sa_6, sa_7, sa_8, tl_all, up_us, up_up, c_10]; done))), (by first | with_reducible rfl | (subst er_1; first | with_reducible rfl | (simp only [sa_ap, si_ap, si_sa, sa_sa, sa_3, sa_4, sa_5, sa_6, sa_7, sa_8, tl_all, up_us, up_up, c_10]; done) | (simp [sa_ap, si_ap, si_sa, sa_sa, sa_3, sa_4, sa_5, sa_6, sa_7, sa_8, tl_all, up_us, up_up, c_10]; done))), rfl, rfl⟩
  · try simp only [sa_ap, si_ap, reduceIte, Nat.reduceEqDiff, up_us, lg_cmp_lt, lg_cmp_gt, lg_cmp_le, lg_cmp_ge] at c_10
    refine g_aload_n C dX4_tellsAll_13 0 rfl ?_
    refine g_callViW C dX4_tellsAll_14 (c_X4_lastTold _ _ _ _ _ _ _ _ _ (by assumption) (by assumption)) tw1360 tw1361 tw1362 tw11 tw1363 (rv_X4 C) rfl ⟨by decide +kernel, by decide +kernel, rfl⟩ ⟨rfl, rfl⟩ (by rw [hR]; decide) (Nat.le_of_ble_eq_true rfl) (by rw [hR]; decide) (fun r_3 X1 M1 K1 h_4 => ?_)
    obtain ⟨er_3, hX1, hM1, hK1⟩ := h_4
    subst X1 M1 K1
    try simp only [sa_ap, si_ap, reduceIte, Nat.reduceEqDiff] at er_3
    refine g_aload_n C dX4_tellsAll_17 0 rfl ?_
    refine gf_X4_state C tw313 dX4_tellsAll_18 ?_
    refine g_icmp_ne C dX4_tellsAll_21 (tgt := 28) (by decide) (fun c_21 => ?_) (fun c_21 => ?_)
    · try simp only [sa_ap, si_ap, reduceIte, Nat.reduceEqDiff, up_us, lg_cmp_lt, lg_cmp_gt, lg_cmp_le, lg_cmp_ge] at c_21
      refine g_iconst C dX4_tellsAll_28 (v := 0) (by decide) ?_
      refine g_zretW C hr (by decide) hQ (Nat.le_refl _) (Nat.le_refl _) dX4_tellsAll_29 ?_
      exact ⟨(by first | with_reducible rfl | (subst er_1 er_3; first | with_reducible rfl | (simp only [sa_ap, si_ap, si_sa, sa_sa, sa_3, sa_4, sa_5, sa_6, sa_7, sa_8, tl_all, up_us, up_up, c_10, c_21]; done) | (simp [sa_ap, si_ap, si_sa, sa_sa, sa_3, sa_4, sa_5, sa_6, sa_7, sa_8, tl_all, up_us, up_up, c_10, c_21]; done))), (by first | with_reducible rfl | (subst er_1 er_3; first | with_reducible rfl | (simp only [sa_ap, si_ap, si_sa, sa_sa, sa_3, sa_4, sa_5, sa_6, sa_7, sa_8, tl_all, up_us, up_up, c_10, c_21]; done) | (simp [sa_ap, si_ap, si_sa, sa_sa, sa_3, sa_4, sa_5, sa_6, sa_7, sa_8, tl_all, up_us, up_up, c_10, c_21]; done))), rfl, rfl⟩
    · try simp only [sa_ap, si_ap, reduceIte, Nat.reduceEqDiff, up_us, lg_cmp_lt, lg_cmp_gt, lg_cmp_le, lg_cmp_ge] at c_21
      refine g_iconst C dX4_tellsAll_24 (v := 1) (by decide) ?_
      refine g_goto C dX4_tellsAll_25 (tgt := 29) (by decide) ?_
      refine g_zretW C hr (by decide) hQ (Nat.le_refl _) (Nat.le_refl _) dX4_tellsAll_29 ?_
      exact ⟨(by first | with_reducible rfl | (subst er_1 er_3; first | with_reducible rfl | (simp only [sa_ap, si_ap, si_sa, sa_sa, sa_3, sa_4, sa_5, sa_6, sa_7, sa_8, tl_all, up_us, up_up, c_10, c_21]; done) | (simp [sa_ap, si_ap, si_sa, sa_sa, sa_3, sa_4, sa_5, sa_6, sa_7, sa_8, tl_all, up_us, up_up, c_10, c_21]; done))), (by first | with_reducible rfl | (subst er_1 er_3; first | with_reducible rfl | (simp only [sa_ap, si_ap, si_sa, sa_sa, sa_3, sa_4, sa_5, sa_6, sa_7, sa_8, tl_all, up_us, up_up, c_10, c_21]; done) | (simp [sa_ap, si_ap, si_sa, sa_sa, sa_3, sa_4, sa_5, sa_6, sa_7, sa_8, tl_all, up_us, up_up, c_10, c_21]; done))), rfl, rfl⟩

set_option maxHeartbeats 400000 in
set_option maxRecDepth 100000 in
/-- hold.hold -/
theorem c_X10_hold (l : Launch) (D : va_G) (cy : Nat → ClassId) (A : Nat → Prop) (ad sad : Nat → Nat) (X M : XF) (K : KF) (p1 p2 : Int32) (h1 : isCh p1) (v : Nat) (hv : v < 999999) (hv0 : X 101 0 = nI v) (h16 : 16 ≤ K.2.1 0) (hcap : (kLs K 0 v ((h_A X p1 p2).2)).2.1 0 < 2 ^ 26) : Met l yX10_hold (wsA yX10_hold cX10_hold 3 none) ({ frames := 7, cells := (kLs K 0 v ((h_A X p1 p2).2)).2.1 4 - K.2.1 4, slots := (kLs K 0 v ((h_A X p1 p2).2)).2.1 6 - K.2.1 6, locals := 213 }) (PcW D cy A ad sad X M K [.ref (ad 0), .int p1, .int p2]) (QvW D cy A ad (fun X1 M1 K1 => X1 = (h_A X p1 p2).1 ∧ M1 = M ∧ K1 = (kLs K 0 v ((h_A X p1 p2).2)))) ((kLs K 0 v ((h_A X p1 p2).2)).2.1 4 - K.2.1 4) ((kLs K 0 v ((h_A X p1 p2).2)).2.1 6 - K.2.1 6) A := by
  refine met_ofW [(0, .ref (ad 0)), (1, .int p1), (2, .int p2)] (by decide +kernel) (Nat.le_of_ble_eq_true rfl) rfl ?_
  intro G C hl hR hL hD hcy hA had hsa hr hQ
  subst hD hcy hA had hsa hl
  have hrc : (gR G).cells = (kLs K 0 v ((h_A X p1 p2).2)).2.1 4 - K.2.1 4 := by rw [hR]
  have hrs : (gR G).slots = (kLs K 0 v ((h_A X p1 p2).2)).2.1 6 - K.2.1 6 := by rw [hR]
  refine g_aload_n C dX10_hold_0 0 rfl ?_
  refine gf_X10_countdown C tw330 dX10_hold_1 ?_
  refine g_iload_n C dX10_hold_4 1 rfl ?_
  refine g_iload_n C dX10_hold_5 2 rfl ?_
  refine g_callVvW C dX10_hold_6 (c_X1_stay _ _ _ _ _ _ _ _ _ _ _ h1) tw951 tw952 tw953 tw9 tw954 (rv_X1 C) rfl ⟨by decide +kernel, by decide +kernel, rfl⟩ ⟨rfl, rfl⟩ (by rw [hR]; exact ⟨Nat.le_of_ble_eq_true rfl, Nat.le_of_ble_eq_true rfl⟩) (Nat.le_of_ble_eq_true rfl) (by omega) (fun X1 M1 K1 h_1 => ?_)
  obtain ⟨hX1, hM1, hK1⟩ := h_1
  subst X1 M1 K1
  refine g_aload_n C dX10_hold_9 0 rfl ?_
  refine gf_X10_log C tw332 dX10_hold_10 ?_
  refine gf_X4_state C tw314 dX10_hold_13 ?_
  refine g_topi (y := X 118 0) (by rw [cd_st _ _ _ (by decide)]) ?_
  refine g_bipush C dX10_hold_16 (v := 99) (by decide) ?_
  refine g_icmp_ne C dX10_hold_18 (tgt := 36) (by decide) (fun c_18 => ?_) (fun c_18 => ?_)
  · try simp only [sa_ap, si_ap, reduceIte, Nat.reduceEqDiff, up_us, lg_cmp_lt, lg_cmp_gt, lg_cmp_le, lg_cmp_ge] at c_18
    refine g_vretW C hr hQ (by omega) (by omega) dX10_hold_36 ?_
    exact ⟨(by first | with_reducible rfl | (first | with_reducible rfl | (simp only [sa_ap, si_ap, si_sa, sa_sa, sa_3, sa_4, sa_5, sa_6, sa_7, sa_8, h_A, kLs, pch, up_us, up_up, c_18]; done) | (simp [sa_ap, si_ap, si_sa, sa_sa, sa_3, sa_4, sa_5, sa_6, sa_7, sa_8, h_A, kLs, pch, up_us, up_up, c_18]; done))), rfl, (by first | with_reducible rfl | (first | with_reducible rfl | (simp only [sa_ap, si_ap, si_sa, sa_sa, sa_3, sa_4, sa_5, sa_6, sa_7, sa_8, h_A, kLs, pch, up_us, up_up, c_18]; done) | (simp [sa_ap, si_ap, si_sa, sa_sa, sa_3, sa_4, sa_5, sa_6, sa_7, sa_8, h_A, kLs, pch, up_us, up_up, c_18]; done)))⟩
  · try simp only [sa_ap, si_ap, reduceIte, Nat.reduceEqDiff, up_us, lg_cmp_lt, lg_cmp_gt, lg_cmp_le, lg_cmp_ge] at c_18
    refine g_aload_n C dX10_hold_21 0 rfl ?_
    refine gf_X10_log C tw332 dX10_hold_22 ?_
    refine g_aload_n C dX10_hold_25 0 rfl ?_
    refine gf_X10_now C tw335 dX10_hold_26 ?_
    refine g_topi (y := nI v) (by rw [cd_st _ _ _ (by decide)]; exact hv0) ?_
    refine g_bipush C dX10_hold_29 (v := 72) (by decide) ?_
    refine g_bipush C dX10_hold_31 (v := 104) (by decide) ?_
    have hcs : (h_A X p1 p2).2 = [72] := by rw [h_A, if_pos c_18]
    have hk := kq (show kLs K 0 v ((h_A X p1 p2).2) = kLg K 0 v 72 by rw [hcs]; rfl)
    have gl72 := kLg_le0 (K) v 72
    refine g_callVvW C dX10_hold_33 (c_X4_change _ _ _ _ _ _ _ _ _ v 72 104 (by omega) (by decide) ⟨by decide, by decide⟩ (by omega) (by omega)) tw757 tw758 tw759 tw11 tw760 (rv_X4 C) rfl ⟨by decide +kernel, by decide +kernel, rfl⟩ ⟨rfl, rfl⟩ (by rw [hR]; exact ⟨Nat.le_of_ble_eq_true rfl, Nat.le_of_ble_eq_true rfl⟩) (Nat.le_of_ble_eq_true rfl) (by omega) (fun X1 M1 K1 h_2 => ?_)
    obtain ⟨hX1, hM1, hK1⟩ := h_2
    subst X1 M1 K1
    refine g_vretW C hr hQ (by omega) (by omega) dX10_hold_36 ?_
    exact ⟨(by first | with_reducible rfl | (first | with_reducible rfl | (simp only [sa_ap, si_ap, si_sa, sa_sa, sa_3, sa_4, sa_5, sa_6, sa_7, sa_8, h_A, kLs, pch, up_us, up_up, c_18]; done) | (simp [sa_ap, si_ap, si_sa, sa_sa, sa_3, sa_4, sa_5, sa_6, sa_7, sa_8, h_A, kLs, pch, up_us, up_up, c_18]; done))), rfl, (by first | with_reducible rfl | (first | with_reducible rfl | (simp only [sa_ap, si_ap, si_sa, sa_sa, sa_3, sa_4, sa_5, sa_6, sa_7, sa_8, h_A, kLs, pch, up_us, up_up, c_18]; done) | (simp [sa_ap, si_ap, si_sa, sa_sa, sa_3, sa_4, sa_5, sa_6, sa_7, sa_8, h_A, kLs, pch, up_us, up_up, c_18]; done)))⟩

set_option maxHeartbeats 400000 in
set_option maxRecDepth 100000 in
/-- destroy.destroy -/
theorem c_X10_destroy (l : Launch) (D : va_G) (cy : Nat → ClassId) (A : Nat → Prop) (ad sad : Nat → Nat) (X M : XF) (K : KF) (p1 : Int32) (h1 : isCh p1) (v : Nat) (hv : v < 999999) (hv0 : X 101 0 = nI v) (h16 : 16 ≤ K.2.1 0) (hcap : (kLs K 0 v ([88])).2.1 0 < 2 ^ 26) : Met l yX10_destroy (wsA yX10_destroy cX10_destroy 2 none) ({ frames := 7, cells := (kLs K 0 v ([88])).2.1 4 - K.2.1 4, slots := (kLs K 0 v ([88])).2.1 6 - K.2.1 6, locals := 213 }) (PcW D cy A ad sad X M K [.ref (ad 0), .int p1]) (QvW D cy A ad (fun X1 M1 K1 => X1 = (ds_A X p1).1 ∧ M1 = M ∧ K1 = (kLs K 0 v ([88])))) ((kLs K 0 v ([88])).2.1 4 - K.2.1 4) ((kLs K 0 v ([88])).2.1 6 - K.2.1 6) A := by
  refine met_ofW [(0, .ref (ad 0)), (1, .int p1)] (by decide +kernel) (Nat.le_of_ble_eq_true rfl) rfl ?_
  intro G C hl hR hL hD hcy hA had hsa hr hQ
  subst hD hcy hA had hsa hl
  have hrc : (gR G).cells = (kLs K 0 v ([88])).2.1 4 - K.2.1 4 := by rw [hR]
  have hrs : (gR G).slots = (kLs K 0 v ([88])).2.1 6 - K.2.1 6 := by rw [hR]
  refine g_aload_n C dX10_destroy_0 0 rfl ?_
  refine gf_X10_countdown C tw330 dX10_destroy_1 ?_
  refine g_iload_n C dX10_destroy_4 1 rfl ?_
  refine g_iconst C dX10_destroy_5 (v := (-1)) (by decide) ?_
  refine g_callVvW C dX10_destroy_6 (c_X1_blame _ _ _ _ _ _ _ _ _ _ _ h1) tw1013 tw956 tw957 tw9 tw958 (rv_X1 C) rfl ⟨by decide +kernel, by decide +kernel, rfl⟩ ⟨rfl, rfl⟩ (by rw [hR]; exact ⟨Nat.le_of_ble_eq_true rfl, Nat.le_of_ble_eq_true rfl⟩) (Nat.le_of_ble_eq_true rfl) (by omega) (fun X1 M1 K1 h_1 => ?_)
  obtain ⟨hX1, hM1, hK1⟩ := h_1
  subst X1 M1 K1
  refine g_aload_n C dX10_destroy_9 0 rfl ?_
  refine gf_X10_log C tw332 dX10_destroy_10 ?_
  refine g_aload_n C dX10_destroy_13 0 rfl ?_
  refine gf_X10_now C tw335 dX10_destroy_14 ?_
  refine g_topi hv0 ?_
  refine g_bipush C dX10_destroy_17 (v := 88) (by decide) ?_
  refine g_bipush C dX10_destroy_19 (v := 120) (by decide) ?_
  have hk := kq (show kLs K 0 v [88] = kLg K 0 v 88 from rfl)
  have gl88 := kLg_le0 (K) v 88
  refine g_callVvW C dX10_destroy_21 (c_X4_change _ _ _ _ _ _ _ _ _ v 88 120 (by omega) (by decide) ⟨by decide, by decide⟩ (by omega) (by omega)) tw757 tw758 tw759 tw11 tw760 (rv_X4 C) rfl ⟨by decide +kernel, by decide +kernel, rfl⟩ ⟨rfl, rfl⟩ (by rw [hR]; exact ⟨Nat.le_of_ble_eq_true rfl, Nat.le_of_ble_eq_true rfl⟩) (Nat.le_of_ble_eq_true rfl) (by omega) (fun X1 M1 K1 h_2 => ?_)
  obtain ⟨hX1, hM1, hK1⟩ := h_2
  subst X1 M1 K1
  refine g_vretW C hr hQ (by omega) (by omega) dX10_destroy_24 ?_
  exact ⟨(by first | with_reducible rfl | (first | with_reducible rfl | (simp only [sa_ap, si_ap, si_sa, sa_sa, sa_3, sa_4, sa_5, sa_6, sa_7, sa_8, ds_A, kLs, pch, up_us, up_up]; done) | (simp [sa_ap, si_ap, si_sa, sa_sa, sa_3, sa_4, sa_5, sa_6, sa_7, sa_8, ds_A, kLs, pch, up_us, up_up]; done))), rfl, rfl⟩

set_option maxHeartbeats 400000 in
set_option maxRecDepth 100000 in
/-- goFurther.goFurther -/
theorem c_X10_goFurther (l : Launch) (D : va_G) (cy : Nat → ClassId) (A : Nat → Prop) (ad sad : Nat → Nat) (X M : XF) (K : KF) (z : Nat) (hz6 : X 105 0 = nI z) (hzl : z ≤ 12) (v : Nat) (hv : v < 999999) (hv0 : X 101 0 = nI v) (h16 : 16 ≤ K.2.1 0) (hcap : (kLs K 0 v ((go_A v z X).2)).2.1 0 < 2 ^ 26) : Met l yX10_goFurther (wsA yX10_goFurther cX10_goFurther 2 none) ({ frames := 7, cells := (kLs K 0 v ((go_A v z X).2)).2.1 4 - K.2.1 4, slots := (kLs K 0 v ((go_A v z X).2)).2.1 6 - K.2.1 6, locals := 213 }) (PcW D cy A ad sad X M K [.ref (ad 0)]) (QvW D cy A ad (fun X1 M1 K1 => X1 = (go_A v z X).1 ∧ M1 = M ∧ K1 = (kLs K 0 v ((go_A v z X).2)))) ((kLs K 0 v ((go_A v z X).2)).2.1 4 - K.2.1 4) ((kLs K 0 v ((go_A v z X).2)).2.1 6 - K.2.1 6) A := by
  refine met_ofW [(0, .ref (ad 0))] (by decide +kernel) (Nat.le_of_ble_eq_true rfl) rfl ?_
  intro G C hl hR hL hD hcy hA had hsa hr hQ
  subst hD hcy hA had hsa hl
  have hrc : (gR G).cells = (kLs K 0 v ((go_A v z X).2)).2.1 4 - K.2.1 4 := by rw [hR]
  have hrs : (gR G).slots = (kLs K 0 v ((go_A v z X).2)).2.1 6 - K.2.1 6 := by rw [hR]
  have hge := go_le K v z X
  have hl := kLs_le0 v (go_1 X).2 K
  have j_27 : GH G (WX G (go_1 X).1 M (kLs K 0 v (go_1 X).2)) [(0, .ref (gad G 0))] ((kLs K 0 v (go_1 X).2).2.1 4 - K.2.1 4) ((kLs K 0 v (go_1 X).2).2.1 6 - K.2.1 6) 27 [] := by
    refine g_aload_n C dX10_goFurther_27 0 rfl ?_
    refine gf_X10_rules C tw329 dX10_goFurther_28 ?_
    refine g_aload_n C dX10_goFurther_31 0 rfl ?_
    refine gf_X10_countdown C tw330 dX10_goFurther_32 ?_
    refine gf_X1_at C tw216 dX10_goFurther_35 ?_
    refine g_callViW C dX10_goFurther_38 (c_X6_areGood _ _ _ _ _ _ _ _ _ _ z (by rw [go_1_k X (show 105 ≠ 118 ∧ 105 ≠ 119 by decide)]; exact hz6) hzl) tw972 tw973 tw974 tw8 tw975 (rv_X6 C) rfl ⟨by decide +kernel, by decide +kernel, rfl⟩ ⟨rfl, rfl⟩ (by rw [hR]; exact ⟨Nat.le_of_ble_eq_true rfl, Nat.le_of_ble_eq_true rfl⟩) (Nat.le_of_ble_eq_true rfl) (by omega) (fun r_1 X1 M1 K1 h_2 => ?_)
    obtain ⟨c_g0, hX1, hM1, hK1⟩ := h_2
    subst X1 M1 K1
    have c_g : r_1 = go_gd X z := c_g0.trans (by simp (discharger := decide) only [go_gd, go_1_k])
    refine g_istore_n C dX10_goFurther_41 (L' := [(1, .int r_1), (0, .ref (gad G 0))]) rfl (by rw [hL]; decide) ?_
    refine g_aload_n C dX10_goFurther_42 1 rfl ?_
    refine gf_X10_countdown C tw330 dX10_goFurther_43 ?_
    refine g_callVvW C dX10_goFurther_46 (c_X1_advance _ _ _ _ _ _ _ _ _ ) tw977 tw978 tw979 tw9 tw980 (rv_X1 C) rfl ⟨by decide +kernel, by decide +kernel, rfl⟩ ⟨rfl, rfl⟩ (by rw [hR]; exact ⟨Nat.le_of_ble_eq_true rfl, Nat.le_of_ble_eq_true rfl⟩) (Nat.le_of_ble_eq_true rfl) (by omega) (fun X1 M1 K1 h_3 => ?_)
    obtain ⟨hX1, hM1, hK1⟩ := h_3
    subst X1 M1 K1
    refine g_aload_n C dX10_goFurther_49 1 rfl ?_
    refine gf_X10_countdown C tw330 dX10_goFurther_50 ?_
    refine gf_X1_at C tw216 dX10_goFurther_53 ?_
    refine g_if_ne C dX10_goFurther_56 (tgt := 104) (by decide) (fun c_56 => ?_) (fun c_56 => ?_)
    · try simp only [sa_ap, si_ap, reduceIte, Nat.reduceEqDiff, up_us, lg_cmp_lt, lg_cmp_gt, lg_cmp_le, lg_cmp_ge] at c_56
      rw [go_1_k X (show 106 ≠ 118 ∧ 106 ≠ 119 by decide)] at c_56
      refine g_vretW C hr hQ (by omega) (by omega) dX10_goFurther_104 ?_
      exact ⟨(by first | with_reducible rfl | (first | with_reducible rfl | (simp only [sa_ap, si_ap, si_sa, sa_sa, sa_3, sa_4, sa_5, sa_6, sa_7, sa_8, go_A, go_2, go_3, kLs, kLs_app, pch, c_g, up_us, up_up, c_56]; done) | (simp [sa_ap, si_ap, si_sa, sa_sa, sa_3, sa_4, sa_5, sa_6, sa_7, sa_8, go_A, go_2, go_3, kLs, kLs_app, pch, c_g, up_us, up_up, c_56]; done))), rfl, (by first | with_reducible rfl | (first | with_reducible rfl | (simp only [sa_ap, si_ap, si_sa, sa_sa, sa_3, sa_4, sa_5, sa_6, sa_7, sa_8, go_A, go_2, go_3, kLs, kLs_app, pch, c_g, up_us, up_up, c_56]; done) | (simp [sa_ap, si_ap, si_sa, sa_sa, sa_3, sa_4, sa_5, sa_6, sa_7, sa_8, go_A, go_2, go_3, kLs, kLs_app, pch, c_g, up_us, up_up, c_56]; done)))⟩
    · try simp only [sa_ap, si_ap, reduceIte, Nat.reduceEqDiff, up_us, lg_cmp_lt, lg_cmp_gt, lg_cmp_le, lg_cmp_ge] at c_56
      rw [go_1_k X (show 106 ≠ 118 ∧ 106 ≠ 119 by decide)] at c_56
      refine g_aload_n C dX10_goFurther_59 1 rfl ?_
      refine gf_X10_countdown C tw330 dX10_goFurther_60 ?_
      refine g_aload_n C dX10_goFurther_63 1 rfl ?_
      refine gf_X10_now C tw335 dX10_goFurther_64 ?_
      refine g_topi (y := nI v) (by show (go_1 X).1 101 0 = nI v; rw [go_1_k X (show 101 ≠ 118 ∧ 101 ≠ 119 by decide)]; exact hv0) ?_
      refine g_iconst C dX10_goFurther_67 (v := 1) (by decide) ?_
      refine g_iadd C dX10_goFurther_68 ?_
      refine g_topi (nI_1 v) ?_
      refine g_callViW C dX10_goFurther_69 (c_X1_isInWindow _ _ _ _ _ _ _ _ _ _) tw981 tw982 tw983 tw9 tw984 (rv_X1 C) rfl ⟨by decide +kernel, by decide +kernel, rfl⟩ ⟨rfl, rfl⟩ (by rw [hR]; exact ⟨Nat.le_of_ble_eq_true rfl, Nat.le_of_ble_eq_true rfl⟩) (Nat.le_of_ble_eq_true rfl) (by omega) (fun r_4 X1 M1 K1 h_5 => ?_)
      obtain ⟨er_4, hX1, hM1, hK1⟩ := h_5
      subst X1 M1 K1
      try simp only [sa_ap, si_ap, reduceIte, Nat.reduceEqDiff] at er_4
      rw [go_1_k X (show 107 ≠ 118 ∧ 107 ≠ 119 by decide), go_1_k X (show 108 ≠ 118 ∧ 108 ≠ 119 by decide)] at er_4
      refine g_if_eq C dX10_goFurther_72 (tgt := 104) (by decide) (fun c_72 => ?_) (fun c_72 => ?_)
      · try simp only [sa_ap, si_ap, reduceIte, Nat.reduceEqDiff, up_us, lg_cmp_lt, lg_cmp_gt, lg_cmp_le, lg_cmp_ge] at c_72
        refine g_vretW C hr hQ (by omega) (by omega) dX10_goFurther_104 ?_
        exact ⟨(by first | with_reducible rfl | (subst er_4; first | with_reducible rfl | (simp only [sa_ap, si_ap, si_sa, sa_sa, sa_3, sa_4, sa_5, sa_6, sa_7, sa_8, go_A, go_2, go_3, kLs, kLs_app, pch, c_g, up_us, up_up, c_56, c_72]; done) | (simp [sa_ap, si_ap, si_sa, sa_sa, sa_3, sa_4, sa_5, sa_6, sa_7, sa_8, go_A, go_2, go_3, kLs, kLs_app, pch, c_g, up_us, up_up, c_56, c_72]; done))), rfl, (by first | with_reducible rfl | (subst er_4; first | with_reducible rfl | (simp only [sa_ap, si_ap, si_sa, sa_sa, sa_3, sa_4, sa_5, sa_6, sa_7, sa_8, go_A, go_2, go_3, kLs, kLs_app, pch, c_g, up_us, up_up, c_56, c_72]; done) | (simp [sa_ap, si_ap, si_sa, sa_sa, sa_3, sa_4, sa_5, sa_6, sa_7, sa_8, go_A, go_2, go_3, kLs, kLs_app, pch, c_g, up_us, up_up, c_56, c_72]; done)))⟩
      · try simp only [sa_ap, si_ap, reduceIte, Nat.reduceEqDiff, up_us, lg_cmp_lt, lg_cmp_gt, lg_cmp_le, lg_cmp_ge] at c_72
        refine g_aload_n C dX10_goFurther_75 1 rfl ?_
        refine gf_X10_flight C tw331 dX10_goFurther_76 ?_
        refine g_aload_n C dX10_goFurther_79 1 rfl ?_
        refine gf_X10_now C tw335 dX10_goFurther_80 ?_
        refine g_topi (y := nI v) (by show (go_1 X).1 101 0 = nI v; rw [go_1_k X (show 101 ≠ 118 ∧ 101 ≠ 119 by decide)]; exact hv0) ?_
        refine g_iconst C dX10_goFurther_83 (v := 1) (by decide) ?_
        refine g_iadd C dX10_goFurther_84 ?_
        refine g_topi (nI_1 v) ?_
        refine g_iload_n C dX10_goFurther_85 0 rfl ?_
        refine g_callVvW C dX10_goFurther_86 (c_X2_leave _ _ _ _ _ _ _ _ _ _ _ (by rw [c_g]; exact go_gd_bo _ _)) tw986 tw987 tw988 tw10 tw989 (rv_X2 C) rfl ⟨by decide +kernel, by decide +kernel, rfl⟩ ⟨rfl, rfl⟩ (by rw [hR]; exact ⟨Nat.le_of_ble_eq_true rfl, Nat.le_of_ble_eq_true rfl⟩) (Nat.le_of_ble_eq_true rfl) (by omega) (fun X1 M1 K1 h_6 => ?_)
        obtain ⟨hX1, hM1, hK1⟩ := h_6
        subst X1 M1 K1
        refine g_aload_n C dX10_goFurther_89 1 rfl ?_
        refine gf_X10_log C tw332 dX10_goFurther_90 ?_
        refine g_aload_n C dX10_goFurther_93 1 rfl ?_
        refine gf_X10_now C tw335 dX10_goFurther_94 ?_
        refine g_topi (y := nI v) (by show (go_1 X).1 101 0 = nI v; rw [go_1_k X (show 101 ≠ 118 ∧ 101 ≠ 119 by decide)]; exact hv0) ?_
        refine g_bipush C dX10_goFurther_97 (v := 70) (by decide) ?_
        refine g_bipush C dX10_goFurther_99 (v := 102) (by decide) ?_
        have hk2 := kq (show kLs K 0 v (go_A v z X).2 = kLg (kLs K 0 v (go_1 X).2) 0 v 70 by first | with_reducible rfl | (subst er_4; first | with_reducible rfl | (simp only [sa_ap, si_ap, si_sa, sa_sa, sa_3, sa_4, sa_5, sa_6, sa_7, sa_8, go_A, go_2, go_3, kLs, kLs_app, pch, c_g, up_us, up_up, c_56, c_72]; done) | (simp [sa_ap, si_ap, si_sa, sa_sa, sa_3, sa_4, sa_5, sa_6, sa_7, sa_8, go_A, go_2, go_3, kLs, kLs_app, pch, c_g, up_us, up_up, c_56, c_72]; done)))
        have gl70 := kLg_le0 (kLs K 0 v (go_1 X).2) v 70
        refine g_callVvW C dX10_goFurther_101 (c_X4_change _ _ _ _ _ _ _ _ _ v 70 102 (by omega) (by decide) ⟨by decide, by decide⟩ (by omega) (by omega)) tw757 tw758 tw759 tw11 tw760 (rv_X4 C) rfl ⟨by decide +kernel, by decide +kernel, rfl⟩ ⟨rfl, rfl⟩ (by rw [hR]; exact ⟨Nat.le_of_ble_eq_true rfl, Nat.le_of_ble_eq_true rfl⟩) (Nat.le_of_ble_eq_true rfl) (by omega) (fun X1 M1 K1 h_7 => ?_)
        obtain ⟨hX1, hM1, hK1⟩ := h_7
        subst X1 M1 K1
        refine g_vretW C hr hQ (by omega) (by omega) dX10_goFurther_104 ?_
        exact ⟨(by first | with_reducible rfl | (subst er_4; first | with_reducible rfl | (simp only [sa_ap, si_ap, si_sa, sa_sa, sa_3, sa_4, sa_5, sa_6, sa_7, sa_8, go_A, go_2, go_3, kLs, kLs_app, pch, c_g, up_us, up_up, c_56, c_72]; done) | (simp [sa_ap, si_ap, si_sa, sa_sa, sa_3, sa_4, sa_5, sa_6, sa_7, sa_8, go_A, go_2, go_3, kLs, kLs_app, pch, c_g, up_us, up_up, c_56, c_72]; done))), rfl, (by first | with_reducible rfl | (subst er_4; first | with_reducible rfl | (simp only [sa_ap, si_ap, si_sa, sa_sa, sa_3, sa_4, sa_5, sa_6, sa_7, sa_8, go_A, go_2, go_3, kLs, kLs_app, pch, c_g, up_us, up_up, c_56, c_72]; done) | (simp [sa_ap, si_ap, si_sa, sa_sa, sa_3, sa_4, sa_5, sa_6, sa_7, sa_8, go_A, go_2, go_3, kLs, kLs_app, pch, c_g, up_us, up_up, c_56, c_72]; done)))⟩
  refine g_aload_n C dX10_goFurther_0 0 rfl ?_
  refine gf_X10_log C tw332 dX10_goFurther_1 ?_
  refine gf_X4_state C tw314 dX10_goFurther_4 ?_
  refine g_bipush C dX10_goFurther_7 (v := 104) (by decide) ?_
  refine g_icmp_ne C dX10_goFurther_9 (tgt := 27) (by decide) (fun c_9 => ?_) (fun c_9 => ?_)
  · try simp only [sa_ap, si_ap, reduceIte, Nat.reduceEqDiff, up_us, lg_cmp_lt, lg_cmp_gt, lg_cmp_le, lg_cmp_ge] at c_9
    exact g_sub [0] rfl (g_to (by simp [go_1, kLs, pch, c_9]) (by simp [go_1, kLs, pch, c_9]) (by simp [go_1, kLs, pch, c_9]) (by simp [go_1, kLs, pch, c_9]) j_27)
  · try simp only [sa_ap, si_ap, reduceIte, Nat.reduceEqDiff, up_us, lg_cmp_lt, lg_cmp_gt, lg_cmp_le, lg_cmp_ge] at c_9
    refine g_aload_n C dX10_goFurther_12 0 rfl ?_
    refine gf_X10_log C tw332 dX10_goFurther_13 ?_
    refine g_aload_n C dX10_goFurther_16 0 rfl ?_
    refine gf_X10_now C tw335 dX10_goFurther_17 ?_
    refine g_topi hv0 ?_
    refine g_bipush C dX10_goFurther_20 (v := 71) (by decide) ?_
    refine g_bipush C dX10_goFurther_22 (v := 99) (by decide) ?_
    have hk1 := kq (show kLs K 0 v (go_1 X).2 = kLg K 0 v 71 by simp [go_1, c_9, kLs])
    have gl71 := kLg_le0 (K) v 71
    refine g_callVvW C dX10_goFurther_24 (c_X4_change _ _ _ _ _ _ _ _ _ v 71 99 (by omega) (by decide) ⟨by decide, by decide⟩ (by omega) (by omega)) tw757 tw758 tw759 tw11 tw760 (rv_X4 C) rfl ⟨by decide +kernel, by decide +kernel, rfl⟩ ⟨rfl, rfl⟩ (by rw [hR]; exact ⟨Nat.le_of_ble_eq_true rfl, Nat.le_of_ble_eq_true rfl⟩) (Nat.le_of_ble_eq_true rfl) (by omega) (fun X1 M1 K1 h_8 => ?_)
    obtain ⟨hX1, hM1, hK1⟩ := h_8
    subst X1 M1 K1
    exact g_sub [0] rfl (g_to (by simp [go_1, kLs, pch, c_9]) (by simp [go_1, kLs, pch, c_9]) (by simp [go_1, kLs, pch, c_9]) (by simp [go_1, kLs, pch, c_9]) j_27)

set_option maxHeartbeats 2000000 in
set_option maxRecDepth 100000 in
/-- countOn.countOn -/
theorem c_X10_countOn (l : Launch) (D : va_G) (cy : Nat → ClassId) (A : Nat → Prop) (ad sad : Nat → Nat) (X M : XF) (K : KF) (v z z5 z8 : Nat) (hs : okS v z z5 z8 X) (hzl : z ≤ 12) (h5 : z5 ≤ 6) (h8 : z8 ≤ 16) (hv : v < 999999) (h16 : 16 ≤ K.2.1 0) (hcap : (kLs K 0 v ((cn_A v z z5 z8 X).2)).2.1 0 < 2 ^ 26) : Met l yX10_countOn (wsA yX10_countOn cX10_countOn 2 none) ({ frames := 8, cells := (kLs K 0 v ((cn_A v z z5 z8 X).2)).2.1 4 - K.2.1 4, slots := (kLs K 0 v ((cn_A v z z5 z8 X).2)).2.1 6 - K.2.1 6, locals := 235 }) (PcW D cy A ad sad X M K [.ref (ad 0)]) (QvW D cy A ad (fun X1 M1 K1 => X1 = (cn_A v z z5 z8 X).1 ∧ M1 = M ∧ K1 = (kLs K 0 v ((cn_A v z z5 z8 X).2)))) ((kLs K 0 v ((cn_A v z z5 z8 X).2)).2.1 4 - K.2.1 4) ((kLs K 0 v ((cn_A v z z5 z8 X).2)).2.1 6 - K.2.1 6) A := by
  refine met_ofW [(0, .ref (ad 0))] (by decide +kernel) (Nat.le_of_ble_eq_true rfl) rfl ?_
  intro G C hl hR hL hD hcy hA had hsa hr hQ
  subst hD hcy hA had hsa hl
  have hrc : (gR G).cells = (kLs K 0 v ((cn_A v z z5 z8 X).2)).2.1 4 - K.2.1 4 := by rw [hR]
  have hrs : (gR G).slots = (kLs K 0 v ((cn_A v z z5 z8 X).2)).2.1 6 - K.2.1 6 := by rw [hR]
  obtain ⟨hv0, hz8, hz5, hz6, h113, hk25, ho⟩ := id hs
  have ht : (kLs K 0 v (cn_1 v z z5 z8 X).2).2.1 0 ≤ (kLs K 0 v (cn_A v z z5 z8 X).2).2.1 0 ∧ (kLs K 0 v (cn_1 v z z5 z8 X).2).2.1 4 ≤ (kLs K 0 v (cn_A v z z5 z8 X).2).2.1 4 ∧ (kLs K 0 v (cn_1 v z z5 z8 X).2).2.1 6 ≤ (kLs K 0 v (cn_A v z z5 z8 X).2).2.1 6 := t_le K v _
  have hl := kLs_le0 v (cn_1 v z z5 z8 X).2 K
  have j_116 : GH G (WX G (cn_1 v z z5 z8 X).1 M (kLs K 0 v (cn_1 v z z5 z8 X).2)) [(0, .ref (gad G 0))] ((kLs K 0 v (cn_1 v z z5 z8 X).2).2.1 4 - K.2.1 4) ((kLs K 0 v (cn_1 v z z5 z8 X).2).2.1 6 - K.2.1 6) 116 [] := by
    refine g_aload_n C dX10_countOn_116 0 rfl ?_
    refine g_callViW C dX10_countOn_117 (c_X10_isCountOn _ _ _ _ _ _ _ _ _ ) tw555 tw557 tp4 tw1 tw558 (rv_X10 C) rfl ⟨by decide +kernel, by decide +kernel, rfl⟩ ⟨rfl, rfl⟩ (by rw [hR]; exact ⟨Nat.le_of_ble_eq_true rfl, Nat.le_of_ble_eq_true rfl⟩) (Nat.le_of_ble_eq_true rfl) (by omega) (fun r_1 X1 M1 K1 h_2 => ?_)
    obtain ⟨er_1, hX1, hM1, hK1⟩ := h_2
    subst X1 M1 K1
    try simp only [sa_ap, si_ap, reduceIte, Nat.reduceEqDiff] at er_1
    have c_i := er_1
    refine g_if_eq C dX10_countOn_120 (tgt := 169) (by decide) (fun c_120 => ?_) (fun c_120 => ?_)
    · try simp only [sa_ap, si_ap, reduceIte, Nat.reduceEqDiff, up_us, lg_cmp_lt, lg_cmp_gt, lg_cmp_le, lg_cmp_ge] at c_120
      rw [c_i] at c_120
      refine g_vretW C hr hQ (by omega) (by omega) dX10_countOn_169 ?_
      exact ⟨(by first | with_reducible rfl | (subst er_1; first | with_reducible rfl | (simp only [sa_ap, si_ap, si_sa, sa_sa, sa_3, sa_4, sa_5, sa_6, sa_7, sa_8, cn_A, t_A, kLs, kLs_app, pch, up_us, up_up, c_120]; done) | (simp [sa_ap, si_ap, si_sa, sa_sa, sa_3, sa_4, sa_5, sa_6, sa_7, sa_8, cn_A, t_A, kLs, kLs_app, pch, up_us, up_up, c_120]; done))), rfl, (by first | with_reducible rfl | (subst er_1; first | with_reducible rfl | (simp only [sa_ap, si_ap, si_sa, sa_sa, sa_3, sa_4, sa_5, sa_6, sa_7, sa_8, cn_A, t_A, kLs, kLs_app, pch, up_us, up_up, c_120]; done) | (simp [sa_ap, si_ap, si_sa, sa_sa, sa_3, sa_4, sa_5, sa_6, sa_7, sa_8, cn_A, t_A, kLs, kLs_app, pch, up_us, up_up, c_120]; done)))⟩
    · try simp only [sa_ap, si_ap, reduceIte, Nat.reduceEqDiff, up_us, lg_cmp_lt, lg_cmp_gt, lg_cmp_le, lg_cmp_ge] at c_120
      rw [c_i] at c_120
      refine g_aload_n C dX10_countOn_123 0 rfl ?_
      refine gf_X10_now C tw335 dX10_countOn_124 ?_
      refine g_topi (y := nI v) (by rw [cn_1_k _ _ _ _ _ (by decide)]; exact hv0) ?_
      refine g_iconst C dX10_countOn_127 (v := 1) (by decide) ?_
      refine g_iadd C dX10_countOn_128 ?_
      refine g_topi (nI_1 v) ?_
      refine g_aload_n C dX10_countOn_129 0 rfl ?_
      refine gf_X10_countdown C tw330 dX10_countOn_130 ?_
      refine gf_X1_at C tw216 dX10_countOn_133 ?_
      refine g_isub C dX10_countOn_136 ?_
      refine g_aload_n C dX10_countOn_137 0 rfl ?_
      refine gf_X10_countdown C tw330 dX10_countOn_138 ?_
      refine gf_X1_shut C tw220 dX10_countOn_141 ?_
      refine g_icmp_le C dX10_countOn_144 (tgt := 169) (by decide) (fun c_144 => ?_) (fun c_144 => ?_)
      · try simp only [sa_ap, si_ap, reduceIte, Nat.reduceEqDiff, up_us, lg_cmp_lt, lg_cmp_gt, lg_cmp_le, lg_cmp_ge] at c_144
        refine g_vretW C hr hQ (by omega) (by omega) dX10_countOn_169 ?_
        exact ⟨(by first | with_reducible rfl | (subst er_1; first | with_reducible rfl | (simp only [sa_ap, si_ap, si_sa, sa_sa, sa_3, sa_4, sa_5, sa_6, sa_7, sa_8, cn_A, t_A, kLs, kLs_app, pch, up_us, up_up, c_120, c_144]; done) | (simp [sa_ap, si_ap, si_sa, sa_sa, sa_3, sa_4, sa_5, sa_6, sa_7, sa_8, cn_A, t_A, kLs, kLs_app, pch, up_us, up_up, c_120, c_144]; done))), rfl, (by first | with_reducible rfl | (subst er_1; first | with_reducible rfl | (simp only [sa_ap, si_ap, si_sa, sa_sa, sa_3, sa_4, sa_5, sa_6, sa_7, sa_8, cn_A, t_A, kLs, kLs_app, pch, up_us, up_up, c_120, c_144]; done) | (simp [sa_ap, si_ap, si_sa, sa_sa, sa_3, sa_4, sa_5, sa_6, sa_7, sa_8, cn_A, t_A, kLs, kLs_app, pch, up_us, up_up, c_120, c_144]; done)))⟩
      · try simp only [sa_ap, si_ap, reduceIte, Nat.reduceEqDiff, up_us, lg_cmp_lt, lg_cmp_gt, lg_cmp_le, lg_cmp_ge] at c_144
        refine g_aload_n C dX10_countOn_147 0 rfl ?_
        refine gf_X10_countdown C tw330 dX10_countOn_148 ?_
        refine g_callVvW C dX10_countOn_151 (c_X1_blameFirstHold _ _ _ _ _ _ _ _ _ (cn_1_3 v z z5 z8 X h113 hk25)) tw990 tw991 tw992 tw9 tw993 (rv_X1 C) rfl ⟨by decide +kernel, by decide +kernel, rfl⟩ ⟨rfl, rfl⟩ (by rw [hR]; exact ⟨Nat.le_of_ble_eq_true rfl, Nat.le_of_ble_eq_true rfl⟩) (Nat.le_of_ble_eq_true rfl) (by omega) (fun X1 M1 K1 h_3 => ?_)
        obtain ⟨hX1, hM1, hK1⟩ := h_3
        subst X1 M1 K1
        refine g_aload_n C dX10_countOn_154 0 rfl ?_
        refine gf_X10_log C tw332 dX10_countOn_155 ?_
        refine g_aload_n C dX10_countOn_158 0 rfl ?_
        refine gf_X10_now C tw335 dX10_countOn_159 ?_
        refine g_topi (y := nI v) (by show (cn_1 v z z5 z8 X).1 101 0 = nI v; rw [cn_1_k _ _ _ _ _ (by decide)]; exact hv0) ?_
        refine g_bipush C dX10_countOn_162 (v := 83) (by decide) ?_
        refine g_bipush C dX10_countOn_164 (v := 115) (by decide) ?_
        have hk3 := kq (show kLs K 0 v (cn_A v z z5 z8 X).2 = kLg (kLs K 0 v (cn_1 v z z5 z8 X).2) 0 v 83 by simp [cn_A, t_A, kLs_app, kLs, er_1, c_120, c_144])
        have gl83 := kLg_le0 (kLs K 0 v (cn_1 v z z5 z8 X).2) v 83
        refine g_callVvW C dX10_countOn_166 (c_X4_change _ _ _ _ _ _ _ _ _ v 83 115 (by omega) (by decide) ⟨by decide, by decide⟩ (by omega) (by omega)) tw757 tw758 tw759 tw11 tw760 (rv_X4 C) rfl ⟨by decide +kernel, by decide +kernel, rfl⟩ ⟨rfl, rfl⟩ (by rw [hR]; exact ⟨Nat.le_of_ble_eq_true rfl, Nat.le_of_ble_eq_true rfl⟩) (Nat.le_of_ble_eq_true rfl) (by omega) (fun X1 M1 K1 h_4 => ?_)
        obtain ⟨hX1, hM1, hK1⟩ := h_4
        subst X1 M1 K1
        refine g_vretW C hr hQ (by omega) (by omega) dX10_countOn_169 ?_
        exact ⟨(by first | with_reducible rfl | (subst er_1; first | with_reducible rfl | (simp only [sa_ap, si_ap, si_sa, sa_sa, sa_3, sa_4, sa_5, sa_6, sa_7, sa_8, cn_A, t_A, kLs, kLs_app, pch, up_us, up_up, c_120, c_144]; done) | (simp [sa_ap, si_ap, si_sa, sa_sa, sa_3, sa_4, sa_5, sa_6, sa_7, sa_8, cn_A, t_A, kLs, kLs_app, pch, up_us, up_up, c_120, c_144]; done))), rfl, (by first | with_reducible rfl | (subst er_1; first | with_reducible rfl | (simp only [sa_ap, si_ap, si_sa, sa_sa, sa_3, sa_4, sa_5, sa_6, sa_7, sa_8, cn_A, t_A, kLs, kLs_app, pch, up_us, up_up, c_120, c_144]; done) | (simp [sa_ap, si_ap, si_sa, sa_sa, sa_3, sa_4, sa_5, sa_6, sa_7, sa_8, cn_A, t_A, kLs, kLs_app, pch, up_us, up_up, c_120, c_144]; done)))⟩
  refine g_aload_n C dX10_countOn_0 0 rfl ?_
  refine gf_X10_rules C tw329 dX10_countOn_1 ?_
  refine g_aload_n C dX10_countOn_4 0 rfl ?_
  refine gf_X10_countdown C tw330 dX10_countOn_5 ?_
  refine gf_X1_at C tw216 dX10_countOn_8 ?_
  refine g_callViW C dX10_countOn_11 (c_X6_firstNotMet _ _ _ _ _ _ _ _ _ _ z hz6 hzl) tw938 tw939 tw940 tw8 tw941 (rv_X6 C) rfl ⟨by decide +kernel, by decide +kernel, rfl⟩ ⟨rfl, rfl⟩ (by rw [hR]; exact ⟨Nat.le_of_ble_eq_true rfl, Nat.le_of_ble_eq_true rfl⟩) (Nat.le_of_ble_eq_true rfl) (by omega) (fun r_5 X1 M1 K1 h_6 => ?_)
  obtain ⟨rfl, hX1, hM1, hK1⟩ := h_6
  subst X1 M1 K1
  refine g_istore_n C dX10_countOn_14 (L' := [(1, .int (fs_A X z)), (0, .ref (gad G 0))]) rfl (by rw [hL]; decide) ?_
  refine g_iload_n C dX10_countOn_15 0 rfl ?_
  refine g_iconst C dX10_countOn_16 (v := (-1)) (by decide) ?_
  refine g_icmp_eq C dX10_countOn_17 (tgt := 37) (by decide) (fun c_17 => ?_) (fun c_17 => ?_)
  · try simp only [sa_ap, si_ap, reduceIte, Nat.reduceEqDiff, up_us, lg_cmp_lt, lg_cmp_gt, lg_cmp_le, lg_cmp_ge] at c_17
    refine g_aload_n C dX10_countOn_37 1 rfl ?_
    refine gf_X10_marks C tw325 dX10_countOn_38 ?_
    refine g_aload_n C dX10_countOn_41 1 rfl ?_
    refine gf_X10_countdown C tw330 dX10_countOn_42 ?_
    refine gf_X1_at C tw216 dX10_countOn_45 ?_
    refine g_aload_n C dX10_countOn_48 1 rfl ?_
    refine gf_X10_countdown C tw330 dX10_countOn_49 ?_
    refine gf_X1_heldHere C tw224 dX10_countOn_52 ?_
    refine g_aload_n C dX10_countOn_55 1 rfl ?_
    refine gf_X10_steps C tw324 dX10_countOn_56 ?_
    refine g_callViW C dX10_countOn_59 (c_X5_keep _ _ _ _ _ _ _ _ _ _ _ z5 hz5 h5 z8 hz8 h8) tw959 tw960 tw961 tw4 tw962 (rv_X5 C) rfl ⟨by decide +kernel, by decide +kernel, rfl⟩ ⟨rfl, rfl⟩ (by rw [hR]; exact ⟨Nat.le_of_ble_eq_true rfl, Nat.le_of_ble_eq_true rfl⟩) (Nat.le_of_ble_eq_true rfl) (by omega) (fun r_7 X1 M1 K1 h_8 => ?_)
    obtain ⟨er_7, hX1, hM1, hK1⟩ := h_8
    subst X1 M1 K1
    try simp only [sa_ap, si_ap, reduceIte, Nat.reduceEqDiff] at er_7
    have c_k : r_7 = kp_A z5 z8 X := er_7
    refine g_if_eq C dX10_countOn_62 (tgt := 75) (by decide) (fun c_62 => ?_) (fun c_62 => ?_)
    · try simp only [sa_ap, si_ap, reduceIte, Nat.reduceEqDiff, up_us, lg_cmp_lt, lg_cmp_gt, lg_cmp_le, lg_cmp_ge] at c_62
      rw [c_k] at c_62
      refine g_aload_n C dX10_countOn_75 1 rfl ?_
      refine gf_X10_countdown C tw330 dX10_countOn_76 ?_
      refine gf_X1_at C tw216 dX10_countOn_79 ?_
      refine g_iconst C dX10_countOn_82 (v := (-1)) (by decide) ?_
      refine g_icmp_ne C dX10_countOn_83 (tgt := 112) (by decide) (fun c_83 => ?_) (fun c_83 => ?_)
      · try simp only [sa_ap, si_ap, reduceIte, Nat.reduceEqDiff, up_us, lg_cmp_lt, lg_cmp_gt, lg_cmp_le, lg_cmp_ge] at c_83
        refine g_aload_n C dX10_countOn_112 1 rfl ?_
        have hk1 := kq (show kLs K 0 v (cn_1 v z z5 z8 X).2 = kLs K 0 v (go_A v z X).2 by simp [cn_1, c_17, er_7, c_62, c_83])
        have hl1 := kLs_le0 v (go_A v z X).2 K
        refine g_callVvW C dX10_countOn_113 (c_X10_goFurther _ _ _ _ _ _ _ _ _ z hz6 hzl v hv hv0 h16 (by omega)) tw968 tw970 tp11 tw1 tw971 (rv_X10 C) rfl ⟨by decide +kernel, by decide +kernel, rfl⟩ ⟨rfl, rfl⟩ (by rw [hR]; exact ⟨Nat.le_of_ble_eq_true rfl, Nat.le_of_ble_eq_true rfl⟩) (Nat.le_of_ble_eq_true rfl) (by omega) (fun X1 M1 K1 h_9 => ?_)
        obtain ⟨hX1, hM1, hK1⟩ := h_9
        subst X1 M1 K1
        exact g_sub [1] rfl (g_to (by simp [cn_1, c_17, er_7, c_62, c_83]) (by simp [cn_1, c_17, er_7, c_62, c_83]) (by simp [cn_1, c_17, er_7, c_62, c_83]) (by simp [cn_1, c_17, er_7, c_62, c_83]) j_116)
      · try simp only [sa_ap, si_ap, reduceIte, Nat.reduceEqDiff, up_us, lg_cmp_lt, lg_cmp_gt, lg_cmp_le, lg_cmp_ge] at c_83
        refine g_aload_n C dX10_countOn_86 1 rfl ?_
        refine gf_X10_now C tw335 dX10_countOn_87 ?_
        refine g_topi hv0 ?_
        refine g_iconst C dX10_countOn_90 (v := 1) (by decide) ?_
        refine g_iadd C dX10_countOn_91 ?_
        refine g_topi (nI_1 v) ?_
        refine g_aload_n C dX10_countOn_92 1 rfl ?_
        refine gf_X10_countdown C tw330 dX10_countOn_93 ?_
        refine gf_X1_open C tw218 dX10_countOn_96 ?_
        refine g_icmp_ge C dX10_countOn_99 (tgt := 112) (by decide) (fun c_99 => ?_) (fun c_99 => ?_)
        · try simp only [sa_ap, si_ap, reduceIte, Nat.reduceEqDiff, up_us, lg_cmp_lt, lg_cmp_gt, lg_cmp_le, lg_cmp_ge] at c_99
          refine g_aload_n C dX10_countOn_112 1 rfl ?_
          have hk1 := kq (show kLs K 0 v (cn_1 v z z5 z8 X).2 = kLs K 0 v (go_A v z X).2 by simp [cn_1, c_17, er_7, c_62, c_83, c_99])
          have hl1 := kLs_le0 v (go_A v z X).2 K
          refine g_callVvW C dX10_countOn_113 (c_X10_goFurther _ _ _ _ _ _ _ _ _ z hz6 hzl v hv hv0 h16 (by omega)) tw968 tw970 tp11 tw1 tw971 (rv_X10 C) rfl ⟨by decide +kernel, by decide +kernel, rfl⟩ ⟨rfl, rfl⟩ (by rw [hR]; exact ⟨Nat.le_of_ble_eq_true rfl, Nat.le_of_ble_eq_true rfl⟩) (Nat.le_of_ble_eq_true rfl) (by omega) (fun X1 M1 K1 h_10 => ?_)
          obtain ⟨hX1, hM1, hK1⟩ := h_10
          subst X1 M1 K1
          exact g_sub [1] rfl (g_to (by simp [cn_1, c_17, er_7, c_62, c_83, c_99]) (by simp [cn_1, c_17, er_7, c_62, c_83, c_99]) (by simp [cn_1, c_17, er_7, c_62, c_83, c_99]) (by simp [cn_1, c_17, er_7, c_62, c_83, c_99]) j_116)
        · try simp only [sa_ap, si_ap, reduceIte, Nat.reduceEqDiff, up_us, lg_cmp_lt, lg_cmp_gt, lg_cmp_le, lg_cmp_ge] at c_99
          refine g_aload_n C dX10_countOn_102 1 rfl ?_
          refine g_bipush C dX10_countOn_103 (v := 111) (by decide) ?_
          refine g_iconst C dX10_countOn_105 (v := (-1)) (by decide) ?_
          have hk1 := kq (show kLs K 0 v (cn_1 v z z5 z8 X).2 = kLs K 0 v (h_A X 111 (-1)).2 by simp [cn_1, c_17, er_7, c_62, c_83, c_99])
          have hl1 := kLs_le0 v (h_A X 111 (-1)).2 K
          refine g_callVvW C dX10_countOn_106 (c_X10_hold _ _ _ _ _ _ _ _ _ 111 (-1) ⟨by decide, by decide⟩ v hv hv0 h16 (by omega)) tw947 tw949 tp10 tw1 tw950 (rv_X10 C) rfl ⟨by decide +kernel, by decide +kernel, rfl⟩ ⟨rfl, rfl⟩ (by rw [hR]; exact ⟨Nat.le_of_ble_eq_true rfl, Nat.le_of_ble_eq_true rfl⟩) (Nat.le_of_ble_eq_true rfl) (by omega) (fun X1 M1 K1 h_11 => ?_)
          obtain ⟨hX1, hM1, hK1⟩ := h_11
          subst X1 M1 K1
          refine g_goto C dX10_countOn_109 (tgt := 116) (by decide) ?_
          exact g_sub [1] rfl (g_to (by simp [cn_1, c_17, er_7, c_62, c_83, c_99]) (by simp [cn_1, c_17, er_7, c_62, c_83, c_99]) (by simp [cn_1, c_17, er_7, c_62, c_83, c_99]) (by simp [cn_1, c_17, er_7, c_62, c_83, c_99]) j_116)
    · try simp only [sa_ap, si_ap, reduceIte, Nat.reduceEqDiff, up_us, lg_cmp_lt, lg_cmp_gt, lg_cmp_le, lg_cmp_ge] at c_62
      rw [c_k] at c_62
      refine g_aload_n C dX10_countOn_65 1 rfl ?_
      refine g_bipush C dX10_countOn_66 (v := 109) (by decide) ?_
      refine g_iconst C dX10_countOn_68 (v := (-1)) (by decide) ?_
      have hk1 := kq (show kLs K 0 v (cn_1 v z z5 z8 X).2 = kLs K 0 v (h_A X 109 (-1)).2 by simp [cn_1, c_17, er_7, c_62])
      have hl1 := kLs_le0 v (h_A X 109 (-1)).2 K
      refine g_callVvW C dX10_countOn_69 (c_X10_hold _ _ _ _ _ _ _ _ _ 109 (-1) ⟨by decide, by decide⟩ v hv hv0 h16 (by omega)) tw947 tw949 tp10 tw1 tw950 (rv_X10 C) rfl ⟨by decide +kernel, by decide +kernel, rfl⟩ ⟨rfl, rfl⟩ (by rw [hR]; exact ⟨Nat.le_of_ble_eq_true rfl, Nat.le_of_ble_eq_true rfl⟩) (Nat.le_of_ble_eq_true rfl) (by omega) (fun X1 M1 K1 h_12 => ?_)
      obtain ⟨hX1, hM1, hK1⟩ := h_12
      subst X1 M1 K1
      refine g_goto C dX10_countOn_72 (tgt := 116) (by decide) ?_
      exact g_sub [1] rfl (g_to (by simp [cn_1, c_17, er_7, c_62]) (by simp [cn_1, c_17, er_7, c_62]) (by simp [cn_1, c_17, er_7, c_62]) (by simp [cn_1, c_17, er_7, c_62]) j_116)
  · try simp only [sa_ap, si_ap, reduceIte, Nat.reduceEqDiff, up_us, lg_cmp_lt, lg_cmp_gt, lg_cmp_le, lg_cmp_ge] at c_17
    rcases rl_first_cases (X 31) (X 29) (X 27) (X 28) (X 30) (X 33) (X 34) (X 106 0) z 0 with q | ⟨j, hj0, hj, ej⟩
    · exact absurd q c_17
    have c_cl : (fs_A X z).toNatClampNeg = j := by show (rl_first (X 31) (X 29) (X 27) (X 28) (X 30) (X 33) (X 34) (X 106 0) z 0).toNatClampNeg = j; rw [ej]; exact nI_clamp (by omega)
    have er : fs_A X z = nI j := ej
    refine g_aload_n C dX10_countOn_20 1 rfl ?_
    refine g_aload_n C dX10_countOn_21 1 rfl ?_
    refine gf_X10_rules C tw329 dX10_countOn_22 ?_
    refine gf_X6_kind C tw169 dX10_countOn_25 ?_
    refine g_iload_n C dX10_countOn_28 0 rfl ?_
    refine g_topi er ?_
    refine al_25 C (by omega) dX10_countOn_29 ?_
    refine g_iload_n C dX10_countOn_30 0 rfl ?_
    have hk1 := kq (show kLs K 0 v (cn_1 v z z5 z8 X).2 = kLs K 0 v (h_A X (X 25 j) (fs_A X z)).2 by simp [cn_1, c_17, c_cl])
    have hl1 := kLs_le0 v (h_A X (X 25 j) (fs_A X z)).2 K
    refine g_callVvW C dX10_countOn_31 (c_X10_hold _ _ _ _ _ _ _ _ _ (X 25 j) (fs_A X z) (hk25 j) v hv hv0 h16 (by omega)) tw947 tw949 tp10 tw1 tw950 (rv_X10 C) rfl ⟨by decide +kernel, by decide +kernel, rfl⟩ ⟨rfl, rfl⟩ (by rw [hR]; exact ⟨Nat.le_of_ble_eq_true rfl, Nat.le_of_ble_eq_true rfl⟩) (Nat.le_of_ble_eq_true rfl) (by omega) (fun X1 M1 K1 h_13 => ?_)
    obtain ⟨hX1, hM1, hK1⟩ := h_13
    subst X1 M1 K1
    refine g_goto C dX10_countOn_34 (tgt := 116) (by decide) ?_
    exact g_sub [1] rfl (g_to (by simp [cn_1, c_17, c_cl]) (by simp [cn_1, c_17, c_cl]) (by simp [cn_1, c_17, c_cl]) (by simp [cn_1, c_17, c_cl]) j_116)

set_option maxHeartbeats 400000 in
set_option maxRecDepth 100000 in
/-- flyOn.flyOn -/
theorem c_X10_flyOn (l : Launch) (D : va_G) (cy : Nat → ClassId) (A : Nat → Prop) (ad sad : Nat → Nat) (X M : XF) (K : KF) (v : Nat) (hv : v < 999999) (hv0 : X 101 0 = nI v) (h16 : 16 ≤ K.2.1 0) (hcap : (kLs K 0 v ((fl_A X).2)).2.1 0 < 2 ^ 26) : Met l yX10_flyOn (wsA yX10_flyOn cX10_flyOn 1 none) ({ frames := 8, cells := (kLs K 0 v ((fl_A X).2)).2.1 4 - K.2.1 4, slots := (kLs K 0 v ((fl_A X).2)).2.1 6 - K.2.1 6, locals := 234 }) (PcW D cy A ad sad X M K [.ref (ad 0)]) (QvW D cy A ad (fun X1 M1 K1 => X1 = (fl_A X).1 ∧ M1 = M ∧ K1 = (kLs K 0 v ((fl_A X).2)))) ((kLs K 0 v ((fl_A X).2)).2.1 4 - K.2.1 4) ((kLs K 0 v ((fl_A X).2)).2.1 6 - K.2.1 6) A := by
  refine met_ofW [(0, .ref (ad 0))] (by decide +kernel) (Nat.le_of_ble_eq_true rfl) rfl ?_
  intro G C hl hR hL hD hcy hA had hsa hr hQ
  subst hD hcy hA had hsa hl
  have hrc : (gR G).cells = (kLs K 0 v ((fl_A X).2)).2.1 4 - K.2.1 4 := by rw [hR]
  have hrs : (gR G).slots = (kLs K 0 v ((fl_A X).2)).2.1 6 - K.2.1 6 := by rw [hR]
  refine g_aload_n C dX10_flyOn_0 0 rfl ?_
  refine gf_X10_countdown C tw330 dX10_flyOn_1 ?_
  refine g_dup C dX10_flyOn_4 rfl ?_
  refine gf_X1_at C tw216 dX10_flyOn_5 ?_
  refine g_iconst C dX10_flyOn_8 (v := 1) (by decide) ?_
  refine g_iadd C dX10_flyOn_9 ?_
  refine pf_X1_at C tw216 dX10_flyOn_10 ?_
  refine g_aload_n C dX10_flyOn_13 0 rfl ?_
  refine gf_X10_log C tw332 dX10_flyOn_14 ?_
  refine gf_X4_state C tw314 dX10_flyOn_17 ?_
  refine g_bipush C dX10_flyOn_20 (v := 102) (by decide) ?_
  refine g_icmp_eq C dX10_flyOn_22 (tgt := 26) (by decide) (fun c_22 => ?_) (fun c_22 => ?_)
  · try simp only [sa_ap, si_ap, reduceIte, Nat.reduceEqDiff, up_us, lg_cmp_lt, lg_cmp_gt, lg_cmp_le, lg_cmp_ge] at c_22
    refine g_aload_n C dX10_flyOn_26 0 rfl ?_
    refine gf_X10_flight C tw331 dX10_flyOn_27 ?_
    refine g_callVvW C dX10_flyOn_30 (c_X2_compareRadars _ _ _ _ _ _ _ _ _ ) tw998 tw999 tw1000 tw10 tw1001 (rv_X2 C) rfl ⟨by decide +kernel, by decide +kernel, rfl⟩ ⟨rfl, rfl⟩ (by rw [hR]; exact ⟨Nat.le_of_ble_eq_true rfl, Nat.le_of_ble_eq_true rfl⟩) (Nat.le_of_ble_eq_true rfl) (by omega) (fun X1 M1 K1 h_1 => ?_)
    obtain ⟨hX1, hM1, hK1⟩ := h_1
    subst X1 M1 K1
    refine g_X (X' := fl_2 X) (by simp [fl_2, fl_1, fl_un, sa_ap, si_ap]) ?_
    refine g_aload_n C dX10_flyOn_33 0 rfl ?_
    refine gf_X10_flight C tw331 dX10_flyOn_34 ?_
    refine g_callViW C dX10_flyOn_37 (c_X2_isFarOff _ _ _ _ _ _ _ _ _ ) tw1005 tw1006 tw1007 tw10 tw1008 (rv_X2 C) rfl ⟨by decide +kernel, by decide +kernel, rfl⟩ ⟨rfl, rfl⟩ (by rw [hR]; exact ⟨Nat.le_of_ble_eq_true rfl, Nat.le_of_ble_eq_true rfl⟩) (Nat.le_of_ble_eq_true rfl) (by omega) (fun r_2 X1 M1 K1 h_3 => ?_)
    obtain ⟨c_fr0, hX1, hM1, hK1⟩ := h_3
    subst X1 M1 K1
    have c_fr : r_2 = fl_far X := c_fr0.trans (by simp (discharger := decide) only [fl_far, fl_2_k])
    refine g_if_eq C dX10_flyOn_40 (tgt := 52) (by decide) (fun c_40 => ?_) (fun c_40 => ?_)
    · try simp only [sa_ap, si_ap, reduceIte, Nat.reduceEqDiff, up_us, lg_cmp_lt, lg_cmp_gt, lg_cmp_le, lg_cmp_ge] at c_40
      rw [c_fr] at c_40
      refine g_aload_n C dX10_flyOn_52 0 rfl ?_
      refine gf_X10_flight C tw331 dX10_flyOn_53 ?_
      refine gf_X2_secondsApart C tw261 dX10_flyOn_56 ?_
      refine g_topi (y := fl_un X) (by rfl) ?_
      refine g_iconst C dX10_flyOn_59 (v := 3) (by decide) ?_
      refine g_icmp_lt C dX10_flyOn_60 (tgt := 72) (by decide) (fun c_60 => ?_) (fun c_60 => ?_)
      · try simp only [sa_ap, si_ap, reduceIte, Nat.reduceEqDiff, up_us, lg_cmp_lt, lg_cmp_gt, lg_cmp_le, lg_cmp_ge] at c_60
        refine g_aload_n C dX10_flyOn_72 0 rfl ?_
        refine gf_X10_countdown C tw330 dX10_flyOn_73 ?_
        refine gf_X1_at C tw216 dX10_flyOn_76 ?_
        refine g_topi (y := X 106 0 + 1) (by rfl) ?_
        refine g_bipush C dX10_flyOn_79 (v := 60) (by decide) ?_
        refine g_icmp_lt C dX10_flyOn_81 (tgt := 99) (by decide) (fun c_81 => ?_) (fun c_81 => ?_)
        · try simp only [sa_ap, si_ap, reduceIte, Nat.reduceEqDiff, up_us, lg_cmp_lt, lg_cmp_gt, lg_cmp_le, lg_cmp_ge] at c_81
          refine g_vretW C hr hQ (by omega) (by omega) dX10_flyOn_99 ?_
          exact ⟨(by first | with_reducible rfl | (first | with_reducible rfl | (simp only [sa_ap, si_ap, si_sa, sa_sa, sa_3, sa_4, sa_5, sa_6, sa_7, sa_8, fl_A, ds_A, kLs, pch, fl_1, up_us, up_up, c_22, c_40, c_60, c_81]; done) | (simp [sa_ap, si_ap, si_sa, sa_sa, sa_3, sa_4, sa_5, sa_6, sa_7, sa_8, fl_A, ds_A, kLs, pch, fl_1, up_us, up_up, c_22, c_40, c_60, c_81]; done))), rfl, (by first | with_reducible rfl | (first | with_reducible rfl | (simp only [sa_ap, si_ap, si_sa, sa_sa, sa_3, sa_4, sa_5, sa_6, sa_7, sa_8, fl_A, ds_A, kLs, pch, fl_1, up_us, up_up, c_22, c_40, c_60, c_81]; done) | (simp [sa_ap, si_ap, si_sa, sa_sa, sa_3, sa_4, sa_5, sa_6, sa_7, sa_8, fl_A, ds_A, kLs, pch, fl_1, up_us, up_up, c_22, c_40, c_60, c_81]; done)))⟩
        · try simp only [sa_ap, si_ap, reduceIte, Nat.reduceEqDiff, up_us, lg_cmp_lt, lg_cmp_gt, lg_cmp_le, lg_cmp_ge] at c_81
          refine g_aload_n C dX10_flyOn_84 0 rfl ?_
          refine gf_X10_log C tw332 dX10_flyOn_85 ?_
          refine g_aload_n C dX10_flyOn_88 0 rfl ?_
          refine gf_X10_now C tw335 dX10_flyOn_89 ?_
          refine g_topi (y := nI v) (by rw [fl_2_k _ (by decide)]; exact hv0) ?_
          refine g_bipush C dX10_flyOn_92 (v := 79) (by decide) ?_
          refine g_bipush C dX10_flyOn_94 (v := 111) (by decide) ?_
          have hk1 := kq (show kLs K 0 v (fl_A X).2 = kLg K 0 v 79 by simp [fl_A, ds_A, kLs, c_22, c_40, c_60, c_81])
          have gl79 := kLg_le0 (K) v 79
          refine g_callVvW C dX10_flyOn_96 (c_X4_change _ _ _ _ _ _ _ _ _ v 79 111 (by omega) (by decide) ⟨by decide, by decide⟩ (by omega) (by omega)) tw757 tw758 tw759 tw11 tw760 (rv_X4 C) rfl ⟨by decide +kernel, by decide +kernel, rfl⟩ ⟨rfl, rfl⟩ (by rw [hR]; exact ⟨Nat.le_of_ble_eq_true rfl, Nat.le_of_ble_eq_true rfl⟩) (Nat.le_of_ble_eq_true rfl) (by omega) (fun X1 M1 K1 h_4 => ?_)
          obtain ⟨hX1, hM1, hK1⟩ := h_4
          subst X1 M1 K1
          refine g_vretW C hr hQ (by omega) (by omega) dX10_flyOn_99 ?_
          exact ⟨(by first | with_reducible rfl | (first | with_reducible rfl | (simp only [sa_ap, si_ap, si_sa, sa_sa, sa_3, sa_4, sa_5, sa_6, sa_7, sa_8, fl_A, ds_A, kLs, pch, fl_1, up_us, up_up, c_22, c_40, c_60, c_81]; done) | (simp [sa_ap, si_ap, si_sa, sa_sa, sa_3, sa_4, sa_5, sa_6, sa_7, sa_8, fl_A, ds_A, kLs, pch, fl_1, up_us, up_up, c_22, c_40, c_60, c_81]; done))), rfl, (by first | with_reducible rfl | (first | with_reducible rfl | (simp only [sa_ap, si_ap, si_sa, sa_sa, sa_3, sa_4, sa_5, sa_6, sa_7, sa_8, fl_A, ds_A, kLs, pch, fl_1, up_us, up_up, c_22, c_40, c_60, c_81]; done) | (simp [sa_ap, si_ap, si_sa, sa_sa, sa_3, sa_4, sa_5, sa_6, sa_7, sa_8, fl_A, ds_A, kLs, pch, fl_1, up_us, up_up, c_22, c_40, c_60, c_81]; done)))⟩
      · try simp only [sa_ap, si_ap, reduceIte, Nat.reduceEqDiff, up_us, lg_cmp_lt, lg_cmp_gt, lg_cmp_le, lg_cmp_ge] at c_60
        refine g_aload_n C dX10_flyOn_63 0 rfl ?_
        refine g_bipush C dX10_flyOn_64 (v := 114) (by decide) ?_
        have hk1 := kq (show kLs K 0 v (fl_A X).2 = kLs K 0 v [88] by simp [fl_A, ds_A, kLs, c_22, c_40, c_60])
        refine g_callVvW C dX10_flyOn_66 (c_X10_destroy _ _ _ _ _ _ _ _ _ 114 ⟨by decide, by decide⟩ v hv (by rw [fl_2_k _ (by decide)]; exact hv0) h16 (by omega)) tw1009 tw1011 tp13 tw1 tw1012 (rv_X10 C) rfl ⟨by decide +kernel, by decide +kernel, rfl⟩ ⟨rfl, rfl⟩ (by rw [hR]; exact ⟨Nat.le_of_ble_eq_true rfl, Nat.le_of_ble_eq_true rfl⟩) (Nat.le_of_ble_eq_true rfl) (by omega) (fun X1 M1 K1 h_5 => ?_)
        obtain ⟨hX1, hM1, hK1⟩ := h_5
        subst X1 M1 K1
        refine g_goto C dX10_flyOn_69 (tgt := 99) (by decide) ?_
        refine g_vretW C hr hQ (by omega) (by omega) dX10_flyOn_99 ?_
        exact ⟨(by first | with_reducible rfl | (first | with_reducible rfl | (simp only [sa_ap, si_ap, si_sa, sa_sa, sa_3, sa_4, sa_5, sa_6, sa_7, sa_8, fl_A, ds_A, kLs, pch, fl_1, up_us, up_up, c_22, c_40, c_60]; done) | (simp [sa_ap, si_ap, si_sa, sa_sa, sa_3, sa_4, sa_5, sa_6, sa_7, sa_8, fl_A, ds_A, kLs, pch, fl_1, up_us, up_up, c_22, c_40, c_60]; done))), rfl, (by first | with_reducible rfl | (first | with_reducible rfl | (simp only [sa_ap, si_ap, si_sa, sa_sa, sa_3, sa_4, sa_5, sa_6, sa_7, sa_8, fl_A, ds_A, kLs, pch, fl_1, up_us, up_up, c_22, c_40, c_60]; done) | (simp [sa_ap, si_ap, si_sa, sa_sa, sa_3, sa_4, sa_5, sa_6, sa_7, sa_8, fl_A, ds_A, kLs, pch, fl_1, up_us, up_up, c_22, c_40, c_60]; done)))⟩
    · try simp only [sa_ap, si_ap, reduceIte, Nat.reduceEqDiff, up_us, lg_cmp_lt, lg_cmp_gt, lg_cmp_le, lg_cmp_ge] at c_40
      rw [c_fr] at c_40
      refine g_aload_n C dX10_flyOn_43 0 rfl ?_
      refine g_bipush C dX10_flyOn_44 (v := 100) (by decide) ?_
      have hk1 := kq (show kLs K 0 v (fl_A X).2 = kLs K 0 v [88] by simp [fl_A, ds_A, kLs, c_22, c_40])
      refine g_callVvW C dX10_flyOn_46 (c_X10_destroy _ _ _ _ _ _ _ _ _ 100 ⟨by decide, by decide⟩ v hv (by rw [fl_2_k _ (by decide)]; exact hv0) h16 (by omega)) tw1009 tw1011 tp13 tw1 tw1012 (rv_X10 C) rfl ⟨by decide +kernel, by decide +kernel, rfl⟩ ⟨rfl, rfl⟩ (by rw [hR]; exact ⟨Nat.le_of_ble_eq_true rfl, Nat.le_of_ble_eq_true rfl⟩) (Nat.le_of_ble_eq_true rfl) (by omega) (fun X1 M1 K1 h_6 => ?_)
      obtain ⟨hX1, hM1, hK1⟩ := h_6
      subst X1 M1 K1
      refine g_goto C dX10_flyOn_49 (tgt := 99) (by decide) ?_
      refine g_vretW C hr hQ (by omega) (by omega) dX10_flyOn_99 ?_
      exact ⟨(by first | with_reducible rfl | (first | with_reducible rfl | (simp only [sa_ap, si_ap, si_sa, sa_sa, sa_3, sa_4, sa_5, sa_6, sa_7, sa_8, fl_A, ds_A, kLs, pch, fl_1, up_us, up_up, c_22, c_40]; done) | (simp [sa_ap, si_ap, si_sa, sa_sa, sa_3, sa_4, sa_5, sa_6, sa_7, sa_8, fl_A, ds_A, kLs, pch, fl_1, up_us, up_up, c_22, c_40]; done))), rfl, (by first | with_reducible rfl | (first | with_reducible rfl | (simp only [sa_ap, si_ap, si_sa, sa_sa, sa_3, sa_4, sa_5, sa_6, sa_7, sa_8, fl_A, ds_A, kLs, pch, fl_1, up_us, up_up, c_22, c_40]; done) | (simp [sa_ap, si_ap, si_sa, sa_sa, sa_3, sa_4, sa_5, sa_6, sa_7, sa_8, fl_A, ds_A, kLs, pch, fl_1, up_us, up_up, c_22, c_40]; done)))⟩
  · try simp only [sa_ap, si_ap, reduceIte, Nat.reduceEqDiff, up_us, lg_cmp_lt, lg_cmp_gt, lg_cmp_le, lg_cmp_ge] at c_22
    refine g_vretW C hr hQ (by omega) (by omega) dX10_flyOn_25 ?_
    exact ⟨(by first | with_reducible rfl | (first | with_reducible rfl | (simp only [sa_ap, si_ap, si_sa, sa_sa, sa_3, sa_4, sa_5, sa_6, sa_7, sa_8, fl_A, ds_A, kLs, pch, fl_1, up_us, up_up, c_22]; done) | (simp [sa_ap, si_ap, si_sa, sa_sa, sa_3, sa_4, sa_5, sa_6, sa_7, sa_8, fl_A, ds_A, kLs, pch, fl_1, up_us, up_up, c_22]; done))), rfl, (by first | with_reducible rfl | (first | with_reducible rfl | (simp only [sa_ap, si_ap, si_sa, sa_sa, sa_3, sa_4, sa_5, sa_6, sa_7, sa_8, fl_A, ds_A, kLs, pch, fl_1, up_us, up_up, c_22]; done) | (simp [sa_ap, si_ap, si_sa, sa_sa, sa_3, sa_4, sa_5, sa_6, sa_7, sa_8, fl_A, ds_A, kLs, pch, fl_1, up_us, up_up, c_22]; done)))⟩

set_option maxHeartbeats 4000000 in
set_option maxRecDepth 100000 in
/-- goThroughSecond.goThroughSecond -/
theorem c_X10_goThroughSecond (l : Launch) (D : va_G) (cy : Nat → ClassId) (A : Nat → Prop) (ad sad : Nat → Nat) (X M : XF) (K : KF) (v z z5 z8 : Nat) (hs : okS v z z5 z8 X) (hzl : z ≤ 12) (h5 : z5 ≤ 6) (h8 : z8 ≤ 16) (hv : v < 999999) (h16 : 16 ≤ K.2.1 0) (hcap : (kLs K 0 v ((sc_A v z z5 z8 X).2)).2.1 0 < 2 ^ 26) : Met l yX10_goThroughSecond (wsA yX10_goThroughSecond cX10_goThroughSecond 2 none) ({ frames := 9, cells := (kLs K 0 v ((sc_A v z z5 z8 X).2)).2.1 4 - K.2.1 4, slots := (kLs K 0 v ((sc_A v z z5 z8 X).2)).2.1 6 - K.2.1 6, locals := 256 }) (PcW D cy A ad sad X M K [.ref (ad 0)]) (QvW D cy A ad (fun X1 M1 K1 => X1 = (sc_A v z z5 z8 X).1 ∧ M1 = M ∧ K1 = (kLs K 0 v ((sc_A v z z5 z8 X).2)))) ((kLs K 0 v ((sc_A v z z5 z8 X).2)).2.1 4 - K.2.1 4) ((kLs K 0 v ((sc_A v z z5 z8 X).2)).2.1 6 - K.2.1 6) A := by
  refine met_ofW [(0, .ref (ad 0))] (by decide +kernel) (Nat.le_of_ble_eq_true rfl) rfl ?_
  intro G C hl hR hL hD hcy hA had hsa hr hQ
  subst hD hcy hA had hsa hl
  have hrc : (gR G).cells = (kLs K 0 v ((sc_A v z z5 z8 X).2)).2.1 4 - K.2.1 4 := by rw [hR]
  have hrs : (gR G).slots = (kLs K 0 v ((sc_A v z z5 z8 X).2)).2.1 6 - K.2.1 6 := by rw [hR]
  obtain ⟨hv0, hz8, hz5, hz6, h113, hk25, ho⟩ := id hs
  have hs2 := hs.s2
  have hs3 := hs.s3
  have hkf := kq (show kLs K 0 v (sc_A v z z5 z8 X).2 = kLs K 0 v (sc_4 v z z5 z8 (sc_3 z (sc_2 z8 (sc_1 X)))).2 from rfl)
  have j_85 : GH G (WX G (sc_4 v z z5 z8 (sc_3 z (sc_2 z8 (sc_1 X)))).1 M (kLs K 0 v (sc_4 v z z5 z8 (sc_3 z (sc_2 z8 (sc_1 X)))).2)) [(0, .ref (gad G 0))] ((kLs K 0 v (sc_4 v z z5 z8 (sc_3 z (sc_2 z8 (sc_1 X)))).2).2.1 4 - K.2.1 4) ((kLs K 0 v (sc_4 v z z5 z8 (sc_3 z (sc_2 z8 (sc_1 X)))).2).2.1 6 - K.2.1 6) 85 [] := by
    refine g_aload_n C dX10_goThroughSecond_85 0 rfl ?_
    refine g_dup C dX10_goThroughSecond_86 rfl ?_
    refine gf_X10_now C tw335 dX10_goThroughSecond_87 ?_
    refine g_topi (y := nI v) (by rw [sc_4_k _ _ _ _ _ (by decide)]; exact hs3.1) ?_
    refine g_iconst C dX10_goThroughSecond_90 (v := 1) (by decide) ?_
    refine g_iadd C dX10_goThroughSecond_91 ?_
    refine g_topi (nI_1 v) ?_
    refine pf_X10_now C tw335 dX10_goThroughSecond_92 ?_
    refine g_aload_n C dX10_goThroughSecond_95 0 rfl ?_
    refine gf_X10_lightnings C tw327 dX10_goThroughSecond_96 ?_
    refine g_aload_n C dX10_goThroughSecond_99 0 rfl ?_
    refine gf_X10_now C tw335 dX10_goThroughSecond_100 ?_
    refine g_topi (y := nI (v + 1)) (by rfl) ?_
    refine g_callVvW C dX10_goThroughSecond_103 (c_X3_forgetOld _ _ _ _ _ _ _ _ _ (v + 1) (by omega)) tw1014 tw1015 tw1016 tw6 tw1017 (rv_X3 C) rfl ⟨by decide +kernel, by decide +kernel, rfl⟩ ⟨rfl, rfl⟩ (by rw [hR]; exact ⟨Nat.le_of_ble_eq_true rfl, Nat.le_of_ble_eq_true rfl⟩) (Nat.le_of_ble_eq_true rfl) (by omega) (fun X1 M1 K1 h_1 => ?_)
    obtain ⟨hX1, hM1, hK1⟩ := h_1
    subst X1 M1 K1
    refine g_vretW C hr hQ (by omega) (by omega) dX10_goThroughSecond_106 ?_
    exact ⟨(by first | with_reducible rfl | (first | with_reducible rfl | (simp only [sa_ap, si_ap, si_sa, sa_sa, sa_3, sa_4, sa_5, sa_6, sa_7, sa_8, sc_A, sc_5, lk_X, cl_val_t, up_us, up_up]; done) | (simp [sa_ap, si_ap, si_sa, sa_sa, sa_3, sa_4, sa_5, sa_6, sa_7, sa_8, sc_A, sc_5, lk_X, cl_val_t, up_us, up_up]; done))), rfl, rfl⟩
  have j_28 : GH G (WX G (sc_2 z8 (sc_1 X)) M K) [(0, .ref (gad G 0))] 0 0 28 [] := by
    refine g_iconst C dX10_goThroughSecond_28 (v := 0) (by decide) ?_
    refine g_istore_n C dX10_goThroughSecond_29 (L' := [(1, .int 0), (0, .ref (gad G 0))]) rfl (by rw [hL]; decide) ?_
    have lp30 : ∀ (n i : Nat) (hi : i + n = z), GH G (WX G (sa (sa (sc_2 z8 (sc_1 X)) 30 (lk_X (sc_2 z8 (sc_1 X)) i).1) 31 (lk_X (sc_2 z8 (sc_1 X)) i).2) M K) [(0, .ref (gad G 0)), (1, .int (nI i))] 0 0 30 [] := by
      intro n
      induction n with
      | zero =>
        intro i hi
        obtain rfl : z = i := by omega
        refine g_iload_n C dX10_goThroughSecond_30 1 rfl ?_
        refine g_aload_n C dX10_goThroughSecond_31 0 rfl ?_
        refine gf_X10_rules C tw329 dX10_goThroughSecond_32 ?_
        refine gf_X6_size C tw185 dX10_goThroughSecond_35 ?_
        refine g_topi hs2.2.2.2.1 ?_
        refine g_icmp_ge C dX10_goThroughSecond_38 (tgt := 60) (by decide) (fun c_38 => ?_) (fun c_38 => absurd (nI_le (a := z) (b := z) (Nat.le_refl _) (by omega)) c_38)
        refine g_X (X' := (sc_3 z (sc_2 z8 (sc_1 X)))) rfl ?_
        refine g_aload_n C dX10_goThroughSecond_60 0 rfl ?_
        refine g_callViW C dX10_goThroughSecond_61 (c_X10_isCountOn _ _ _ _ _ _ _ _ _ ) tw555 tw557 tp4 tw1 tw558 (rv_X10 C) rfl ⟨by decide +kernel, by decide +kernel, rfl⟩ ⟨rfl, rfl⟩ (by rw [hR]; exact ⟨Nat.le_of_ble_eq_true rfl, Nat.le_of_ble_eq_true rfl⟩) (Nat.le_of_ble_eq_true rfl) (by omega) (fun r_2 X1 M1 K1 h_3 => ?_)
        obtain ⟨er_2, hX1, hM1, hK1⟩ := h_3
        subst X1 M1 K1
        try simp only [sa_ap, si_ap, reduceIte, Nat.reduceEqDiff] at er_2
        have c_j := er_2
        refine g_if_eq C dX10_goThroughSecond_64 (tgt := 74) (by decide) (fun c_64 => ?_) (fun c_64 => ?_)
        · try simp only [sa_ap, si_ap, reduceIte, Nat.reduceEqDiff, up_us, lg_cmp_lt, lg_cmp_gt, lg_cmp_le, lg_cmp_ge] at c_64
          rw [c_j] at c_64
          refine g_aload_n C dX10_goThroughSecond_74 0 rfl ?_
          refine g_callViW C dX10_goThroughSecond_75 (c_X10_hasLeft _ _ _ _ _ _ _ _ _ ) tw559 tw561 tp5 tw1 tw562 (rv_X10 C) rfl ⟨by decide +kernel, by decide +kernel, rfl⟩ ⟨rfl, rfl⟩ (by rw [hR]; exact ⟨Nat.le_of_ble_eq_true rfl, Nat.le_of_ble_eq_true rfl⟩) (Nat.le_of_ble_eq_true rfl) (by omega) (fun r_4 X1 M1 K1 h_5 => ?_)
          obtain ⟨er_4, hX1, hM1, hK1⟩ := h_5
          subst X1 M1 K1
          try simp only [sa_ap, si_ap, reduceIte, Nat.reduceEqDiff] at er_4
          have c_h := er_4
          refine g_if_eq C dX10_goThroughSecond_78 (tgt := 85) (by decide) (fun c_78 => ?_) (fun c_78 => ?_)
          · try simp only [sa_ap, si_ap, reduceIte, Nat.reduceEqDiff, up_us, lg_cmp_lt, lg_cmp_gt, lg_cmp_le, lg_cmp_ge] at c_78
            rw [c_h] at c_78
            exact g_sub [0] rfl (g_to (by simp [sc_4, kLs, er_2, c_64, er_4, c_78]) (by simp [sc_4, kLs, er_2, c_64, er_4, c_78]) (by simp [sc_4, kLs, er_2, c_64, er_4, c_78]) (by simp [sc_4, kLs, er_2, c_64, er_4, c_78]) j_85)
          · try simp only [sa_ap, si_ap, reduceIte, Nat.reduceEqDiff, up_us, lg_cmp_lt, lg_cmp_gt, lg_cmp_le, lg_cmp_ge] at c_78
            rw [c_h] at c_78
            refine g_aload_n C dX10_goThroughSecond_81 0 rfl ?_
            have hk1 := kq (show kLs K 0 v (sc_4 v z z5 z8 (sc_3 z (sc_2 z8 (sc_1 X)))).2 = kLs K 0 v (fl_A (sc_3 z (sc_2 z8 (sc_1 X)))).2 by simp [sc_4, c_64, c_78])
            have hl1 := kLs_le0 v (fl_A (sc_3 z (sc_2 z8 (sc_1 X)))).2 K
            refine g_callVvW C dX10_goThroughSecond_82 (c_X10_flyOn _ _ _ _ _ _ _ _ _ v hv hs3.1 h16 (by omega)) tw994 tw996 tp12 tw1 tw997 (rv_X10 C) rfl ⟨by decide +kernel, by decide +kernel, rfl⟩ ⟨rfl, rfl⟩ (by rw [hR]; exact ⟨Nat.le_of_ble_eq_true rfl, Nat.le_of_ble_eq_true rfl⟩) (Nat.le_of_ble_eq_true rfl) (by omega) (fun X1 M1 K1 h_6 => ?_)
            obtain ⟨hX1, hM1, hK1⟩ := h_6
            subst X1 M1 K1
            exact g_sub [0] rfl (g_to (by simp [sc_4, kLs, er_2, c_64, er_4, c_78]) (by simp [sc_4, kLs, er_2, c_64, er_4, c_78]) (by simp [sc_4, kLs, er_2, c_64, er_4, c_78]) (by simp [sc_4, kLs, er_2, c_64, er_4, c_78]) j_85)
        · try simp only [sa_ap, si_ap, reduceIte, Nat.reduceEqDiff, up_us, lg_cmp_lt, lg_cmp_gt, lg_cmp_le, lg_cmp_ge] at c_64
          rw [c_j] at c_64
          refine g_aload_n C dX10_goThroughSecond_67 0 rfl ?_
          have hk1 := kq (show kLs K 0 v (sc_4 v z z5 z8 (sc_3 z (sc_2 z8 (sc_1 X)))).2 = kLs K 0 v (cn_A v z z5 z8 (sc_3 z (sc_2 z8 (sc_1 X)))).2 by simp [sc_4, c_64])
          have hl1 := kLs_le0 v (cn_A v z z5 z8 (sc_3 z (sc_2 z8 (sc_1 X)))).2 K
          refine g_callVvW C dX10_goThroughSecond_68 (c_X10_countOn _ _ _ _ _ _ _ _ _ v z z5 z8 hs3 hzl h5 h8 hv h16 (by omega)) tw934 tw936 tp9 tw1 tw937 (rv_X10 C) rfl ⟨by decide +kernel, by decide +kernel, rfl⟩ ⟨rfl, rfl⟩ (by rw [hR]; exact ⟨Nat.le_of_ble_eq_true rfl, Nat.le_of_ble_eq_true rfl⟩) (Nat.le_of_ble_eq_true rfl) (by omega) (fun X1 M1 K1 h_7 => ?_)
          obtain ⟨hX1, hM1, hK1⟩ := h_7
          subst X1 M1 K1
          refine g_goto C dX10_goThroughSecond_71 (tgt := 85) (by decide) ?_
          exact g_sub [0] rfl (g_to (by simp [sc_4, kLs, er_2, c_64]) (by simp [sc_4, kLs, er_2, c_64]) (by simp [sc_4, kLs, er_2, c_64]) (by simp [sc_4, kLs, er_2, c_64]) j_85)
      | succ n ih =>
        intro i hi
        refine g_iload_n C dX10_goThroughSecond_30 1 rfl ?_
        refine g_aload_n C dX10_goThroughSecond_31 0 rfl ?_
        refine gf_X10_rules C tw329 dX10_goThroughSecond_32 ?_
        refine gf_X6_size C tw185 dX10_goThroughSecond_35 ?_
        refine g_topi hs2.2.2.2.1 ?_
        refine g_icmp_ge C dX10_goThroughSecond_38 (tgt := 60) (by decide) (fun c_38 => absurd c_38 (nI_ge (a := i) (b := z) (by omega) (by omega))) (fun c_38 => ?_)
        refine g_aload_n C dX10_goThroughSecond_41 0 rfl ?_
        refine gf_X10_rules C tw329 dX10_goThroughSecond_42 ?_
        refine g_iload_n C dX10_goThroughSecond_45 1 rfl ?_
        refine g_aload_n C dX10_goThroughSecond_46 0 rfl ?_
        refine g_iload_n C dX10_goThroughSecond_47 1 rfl ?_
        refine g_callViW C dX10_goThroughSecond_48 (c_X10_valueFor _ _ _ _ _ _ _ _ _ i (by omega) (hs2.2.2.2.2.2.2 i (by omega))) tw922 tw924 tp8 tw1 tw925 (rv_X10 C) rfl ⟨by decide +kernel, by decide +kernel, rfl⟩ ⟨rfl, rfl⟩ (by rw [hR]; exact ⟨Nat.le_of_ble_eq_true rfl, Nat.le_of_ble_eq_true rfl⟩) (Nat.le_of_ble_eq_true rfl) (by omega) (fun r_8 X1 M1 K1 h_9 => ?_)
        obtain ⟨er_8, hX1, hM1, hK1⟩ := h_9
        subst X1 M1 K1
        try simp only [sa_ap, si_ap, reduceIte, Nat.reduceEqDiff] at er_8
        refine g_callVvW C dX10_goThroughSecond_51 (c_X6_lookAt _ _ _ _ _ _ _ _ _ i (by omega) _) tw926 tw927 tw928 tw8 tw929 (rv_X6 C) rfl ⟨by decide +kernel, by decide +kernel, rfl⟩ ⟨rfl, rfl⟩ (by rw [hR]; exact ⟨Nat.le_of_ble_eq_true rfl, Nat.le_of_ble_eq_true rfl⟩) (Nat.le_of_ble_eq_true rfl) (by omega) (fun X1 M1 K1 h_10 => ?_)
        obtain ⟨hX1, hM1, hK1⟩ := h_10
        subst X1 M1 K1
        refine g_iinc C dX10_goThroughSecond_54 1 rfl (v := nI (i + 1)) (nI_1 _) (L' := [(1, .int (nI (i + 1))), (0, .ref (gad G 0))]) rfl (by rw [hL]; decide) ?_
        refine g_goto C dX10_goThroughSecond_57 (tgt := 30) (by decide) ?_
        exact g_sub [1, 0] rfl (g_X (by first | with_reducible rfl | (subst er_8; first | with_reducible rfl | (simp only [sa_ap, si_ap, si_sa, sa_sa, sa_3, sa_4, sa_5, sa_6, sa_7, sa_8, sc_A, sc_5, lk_X, cl_val_t, up_us, up_up]; done) | (simp [sa_ap, si_ap, si_sa, sa_sa, sa_3, sa_4, sa_5, sa_6, sa_7, sa_8, sc_A, sc_5, lk_X, cl_val_t, up_us, up_up]; done))) (ih (i + 1) (by omega)))
    exact g_sub [1, 0] rfl (g_X (by simp [lk_X, sa_self]) (lp30 (z) 0 (by omega)))
  refine g_aload_n C dX10_goThroughSecond_0 0 rfl ?_
  refine gf_X10_tanks C tw323 dX10_goThroughSecond_1 ?_
  refine g_callVvW C dX10_goThroughSecond_4 (c_X9_boilAndFill _ _ _ _ _ _ _ _ _ ) tw910 tw911 tw912 tw2 tw913 (rv_X9 C) rfl ⟨by decide +kernel, by decide +kernel, rfl⟩ ⟨rfl, rfl⟩ (by rw [hR]; exact ⟨Nat.le_of_ble_eq_true rfl, Nat.le_of_ble_eq_true rfl⟩) (Nat.le_of_ble_eq_true rfl) (by omega) (fun X1 M1 K1 h_11 => ?_)
  obtain ⟨hX1, hM1, hK1⟩ := h_11
  subst X1 M1 K1
  refine g_X (X' := sc_1 X) rfl ?_
  refine g_aload_n C dX10_goThroughSecond_7 0 rfl ?_
  refine g_callViW C dX10_goThroughSecond_8 (c_X10_isCountOn _ _ _ _ _ _ _ _ _ ) tw555 tw557 tp4 tw1 tw558 (rv_X10 C) rfl ⟨by decide +kernel, by decide +kernel, rfl⟩ ⟨rfl, rfl⟩ (by rw [hR]; exact ⟨Nat.le_of_ble_eq_true rfl, Nat.le_of_ble_eq_true rfl⟩) (Nat.le_of_ble_eq_true rfl) (by omega) (fun r_12 X1 M1 K1 h_13 => ?_)
  obtain ⟨er_12, hX1, hM1, hK1⟩ := h_13
  subst X1 M1 K1
  try simp only [sa_ap, si_ap, reduceIte, Nat.reduceEqDiff] at er_12
  have c_i : r_12 = md_ic (X 118 0) := er_12
  refine g_if_eq C dX10_goThroughSecond_11 (tgt := 28) (by decide) (fun c_11 => ?_) (fun c_11 => ?_)
  · try simp only [sa_ap, si_ap, reduceIte, Nat.reduceEqDiff, up_us, lg_cmp_lt, lg_cmp_gt, lg_cmp_le, lg_cmp_ge] at c_11
    rw [c_i] at c_11
    exact g_sub [0] rfl (g_X (by first | exact (if_pos c_11).symm | exact (if_neg c_11).symm) j_28)
  · try simp only [sa_ap, si_ap, reduceIte, Nat.reduceEqDiff, up_us, lg_cmp_lt, lg_cmp_gt, lg_cmp_le, lg_cmp_ge] at c_11
    rw [c_i] at c_11
    refine g_aload_n C dX10_goThroughSecond_14 0 rfl ?_
    refine gf_X10_steps C tw324 dX10_goThroughSecond_15 ?_
    refine g_aload_n C dX10_goThroughSecond_18 0 rfl ?_
    refine gf_X10_countdown C tw330 dX10_goThroughSecond_19 ?_
    refine gf_X1_at C tw216 dX10_goThroughSecond_22 ?_
    refine g_callVvW C dX10_goThroughSecond_25 (c_X8_work _ _ _ _ _ _ _ _ _ _ z8 hz8 h8) tw914 tw915 tw916 tw3 tw917 (rv_X8 C) rfl ⟨by decide +kernel, by decide +kernel, rfl⟩ ⟨rfl, rfl⟩ (by rw [hR]; exact ⟨Nat.le_of_ble_eq_true rfl, Nat.le_of_ble_eq_true rfl⟩) (Nat.le_of_ble_eq_true rfl) (by omega) (fun X1 M1 K1 h_14 => ?_)
    obtain ⟨hX1, hM1, hK1⟩ := h_14
    subst X1 M1 K1
    exact g_sub [0] rfl (g_X (by first | exact (if_pos c_11).symm | exact (if_neg c_11).symm) j_28)

set_option maxHeartbeats 400000 in
set_option maxRecDepth 100000 in
/-- begin.begin -/
theorem c_X10_begin (l : Launch) (D : va_G) (cy : Nat → ClassId) (A : Nat → Prop) (ad sad : Nat → Nat) (X M : XF) (K : KF) (p1 p2 p3 : Int32) (v z z5 z8 : Nat) (hs : okS v z z5 z8 X) (hzl : z ≤ 12) (h5 : z5 ≤ 6) (h8 : z8 ≤ 16) (hv : v < 999999) (h16 : 16 ≤ K.2.1 0) (hcap : (kLs K 0 v [67]).2.1 0 < 2 ^ 26) (hst : l.stackTraces = false) : vx_Met l yX10_begin (wsA yX10_begin cX10_begin 4 (some .int)) ({ frames := 7, cells := (kLs K 0 v [67]).2.1 4 - K.2.1 4 + 1, slots := (kLs K 0 v [67]).2.1 6 - K.2.1 6 + 6, locals := 213 }) (PcW D cy A ad sad X M K [.ref (ad 0), .int p1, .int p2, .int p3]) (QiW D cy A ad (fun r X1 M1 K1 => xk_begin (X 118 0) p1 p2 p3 = 0 ∧ r = X 101 0 - p1 ∧ X1 = bg_X z z8 p1 p2 p3 X ∧ M1 = M ∧ K1 = (kLs K 0 v [67]))) (XcW D cy A ad (fun E X1 M1 K1 => ¬ xk_begin (X 118 0) p1 p2 p3 = 0 ∧ E = xn "java/lang/IllegalArgumentException" "java/lang/IllegalStateException" "java/lang/IllegalStateException" (xk_begin (X 118 0) p1 p2 p3) ∧ X1 = X ∧ M1 = M ∧ K1 = K)) ((kLs K 0 v [67]).2.1 4 - K.2.1 4 + 1) ((kLs K 0 v [67]).2.1 6 - K.2.1 6 + 6) A := by
  refine vet_ofW [(0, .ref (ad 0)), (1, .int p1), (2, .int p2), (3, .int p3)] (by decide +kernel) (Nat.le_of_ble_eq_true rfl) rfl ?_
  intro G C hl hR hL hD hcy hA had hsa hr ht hQ
  subst hD hcy hA had hsa hl
  have hrc : (gR G).cells = (kLs K 0 v [67]).2.1 4 - K.2.1 4 + 1 := by rw [hR]
  have hrs : (gR G).slots = (kLs K 0 v [67]).2.1 6 - K.2.1 6 + 6 := by rw [hR]
  obtain ⟨hv0, hz8, hz5, hz6, h113, hk25, ho⟩ := id hs
  refine g_iload_n C dX10_begin_0 1 rfl ?_
  refine g_sipush C dX10_begin_1 (v := (-600)) (by decide) ?_
  refine g_bipush C dX10_begin_4 (v := (-10)) (by decide) ?_
  refine g_callSiW C dX10_begin_6 (c_X10_isWithin _ _ _ _ _ _ _ _ _ _ _ _) tw503 tw504 tw1 tw505 rfl ⟨by decide +kernel, by decide +kernel, rfl⟩ ⟨rfl, rfl⟩ (by rw [hR]; exact ⟨Nat.le_of_ble_eq_true rfl, Nat.le_of_ble_eq_true rfl⟩) (Nat.le_of_ble_eq_true rfl) (by omega) (fun r_1 X1 M1 K1 h_2 => ?_)
  obtain ⟨er_1, hX1, hM1, hK1⟩ := h_2
  subst X1 M1 K1
  try simp only [sa_ap, si_ap, reduceIte, Nat.reduceEqDiff] at er_1
  refine g_if_eq C dX10_begin_9 (tgt := 34) (by decide) (fun c_9 => ?_) (fun c_9 => ?_)
  · try simp only [sa_ap, si_ap, reduceIte, Nat.reduceEqDiff, up_us, lg_cmp_lt, lg_cmp_gt, lg_cmp_le, lg_cmp_ge] at c_9
    refine g_throwS C hst ht hQ th_103 th_ot_103 tw506 tw21 (i := 3) ⟨by decide, rfl⟩ dX10_begin_34 dX10_begin_37 dX10_begin_38 dX10_begin_40 dX10_begin_43 (by rw [hR]; exact ⟨Nat.le_of_ble_eq_true rfl, Nat.le_of_ble_eq_true rfl⟩) (by omega) (by omega) ?_
    exact ⟨(by first | with_reducible rfl | (subst er_1; first | with_reducible rfl | (simp only [sa_ap, si_ap, si_sa, sa_sa, sa_3, sa_4, sa_5, sa_6, sa_7, sa_8, xk_begin, xn, bg_X, pch, kLs, up_us, up_up, c_9]; done) | (simp [sa_ap, si_ap, si_sa, sa_sa, sa_3, sa_4, sa_5, sa_6, sa_7, sa_8, xk_begin, xn, bg_X, pch, kLs, up_us, up_up, c_9]; done))), (by first | with_reducible rfl | (subst er_1; first | with_reducible rfl | (simp only [sa_ap, si_ap, si_sa, sa_sa, sa_3, sa_4, sa_5, sa_6, sa_7, sa_8, xk_begin, xn, bg_X, pch, kLs, up_us, up_up, c_9]; done) | (simp [sa_ap, si_ap, si_sa, sa_sa, sa_3, sa_4, sa_5, sa_6, sa_7, sa_8, xk_begin, xn, bg_X, pch, kLs, up_us, up_up, c_9]; done))), (by first | with_reducible rfl | (subst er_1; first | with_reducible rfl | (simp only [sa_ap, si_ap, si_sa, sa_sa, sa_3, sa_4, sa_5, sa_6, sa_7, sa_8, xk_begin, xn, bg_X, pch, kLs, up_us, up_up, c_9]; done) | (simp [sa_ap, si_ap, si_sa, sa_sa, sa_3, sa_4, sa_5, sa_6, sa_7, sa_8, xk_begin, xn, bg_X, pch, kLs, up_us, up_up, c_9]; done))), rfl, rfl⟩
  · try simp only [sa_ap, si_ap, reduceIte, Nat.reduceEqDiff, up_us, lg_cmp_lt, lg_cmp_gt, lg_cmp_le, lg_cmp_ge] at c_9
    refine g_iload_n C dX10_begin_12 2 rfl ?_
    refine g_iconst C dX10_begin_13 (v := 0) (by decide) ?_
    refine g_sipush C dX10_begin_14 (v := 5000) (by decide) ?_
    refine g_callSiW C dX10_begin_17 (c_X10_isWithin _ _ _ _ _ _ _ _ _ _ _ _) tw503 tw504 tw1 tw505 rfl ⟨by decide +kernel, by decide +kernel, rfl⟩ ⟨rfl, rfl⟩ (by rw [hR]; exact ⟨Nat.le_of_ble_eq_true rfl, Nat.le_of_ble_eq_true rfl⟩) (Nat.le_of_ble_eq_true rfl) (by omega) (fun r_3 X1 M1 K1 h_4 => ?_)
    obtain ⟨er_3, hX1, hM1, hK1⟩ := h_4
    subst X1 M1 K1
    try simp only [sa_ap, si_ap, reduceIte, Nat.reduceEqDiff] at er_3
    refine g_if_eq C dX10_begin_20 (tgt := 34) (by decide) (fun c_20 => ?_) (fun c_20 => ?_)
    · try simp only [sa_ap, si_ap, reduceIte, Nat.reduceEqDiff, up_us, lg_cmp_lt, lg_cmp_gt, lg_cmp_le, lg_cmp_ge] at c_20
      refine g_throwS C hst ht hQ th_103 th_ot_103 tw506 tw21 (i := 3) ⟨by decide, rfl⟩ dX10_begin_34 dX10_begin_37 dX10_begin_38 dX10_begin_40 dX10_begin_43 (by rw [hR]; exact ⟨Nat.le_of_ble_eq_true rfl, Nat.le_of_ble_eq_true rfl⟩) (by omega) (by omega) ?_
      exact ⟨(by first | with_reducible rfl | (subst er_1 er_3; first | with_reducible rfl | (simp only [sa_ap, si_ap, si_sa, sa_sa, sa_3, sa_4, sa_5, sa_6, sa_7, sa_8, xk_begin, xn, bg_X, pch, kLs, up_us, up_up, c_9, c_20]; done) | (simp [sa_ap, si_ap, si_sa, sa_sa, sa_3, sa_4, sa_5, sa_6, sa_7, sa_8, xk_begin, xn, bg_X, pch, kLs, up_us, up_up, c_9, c_20]; done))), (by first | with_reducible rfl | (subst er_1 er_3; first | with_reducible rfl | (simp only [sa_ap, si_ap, si_sa, sa_sa, sa_3, sa_4, sa_5, sa_6, sa_7, sa_8, xk_begin, xn, bg_X, pch, kLs, up_us, up_up, c_9, c_20]; done) | (simp [sa_ap, si_ap, si_sa, sa_sa, sa_3, sa_4, sa_5, sa_6, sa_7, sa_8, xk_begin, xn, bg_X, pch, kLs, up_us, up_up, c_9, c_20]; done))), (by first | with_reducible rfl | (subst er_1 er_3; first | with_reducible rfl | (simp only [sa_ap, si_ap, si_sa, sa_sa, sa_3, sa_4, sa_5, sa_6, sa_7, sa_8, xk_begin, xn, bg_X, pch, kLs, up_us, up_up, c_9, c_20]; done) | (simp [sa_ap, si_ap, si_sa, sa_sa, sa_3, sa_4, sa_5, sa_6, sa_7, sa_8, xk_begin, xn, bg_X, pch, kLs, up_us, up_up, c_9, c_20]; done))), rfl, rfl⟩
    · try simp only [sa_ap, si_ap, reduceIte, Nat.reduceEqDiff, up_us, lg_cmp_lt, lg_cmp_gt, lg_cmp_le, lg_cmp_ge] at c_20
      refine g_iload_n C dX10_begin_23 3 rfl ?_
      refine g_iload_n C dX10_begin_24 2 rfl ?_
      refine g_sipush C dX10_begin_25 (v := 5000) (by decide) ?_
      refine g_callSiW C dX10_begin_28 (c_X10_isWithin _ _ _ _ _ _ _ _ _ _ _ _) tw503 tw504 tw1 tw505 rfl ⟨by decide +kernel, by decide +kernel, rfl⟩ ⟨rfl, rfl⟩ (by rw [hR]; exact ⟨Nat.le_of_ble_eq_true rfl, Nat.le_of_ble_eq_true rfl⟩) (Nat.le_of_ble_eq_true rfl) (by omega) (fun r_5 X1 M1 K1 h_6 => ?_)
      obtain ⟨er_5, hX1, hM1, hK1⟩ := h_6
      subst X1 M1 K1
      try simp only [sa_ap, si_ap, reduceIte, Nat.reduceEqDiff] at er_5
      refine g_if_ne C dX10_begin_31 (tgt := 44) (by decide) (fun c_31 => ?_) (fun c_31 => ?_)
      · try simp only [sa_ap, si_ap, reduceIte, Nat.reduceEqDiff, up_us, lg_cmp_lt, lg_cmp_gt, lg_cmp_le, lg_cmp_ge] at c_31
        refine g_aload_n C dX10_begin_44 0 rfl ?_
        refine g_callViW C dX10_begin_45 (c_X10_isPlanFixed _ _ _ _ _ _ _ _ _ ) tw551 tw553 tp3 tw1 tw554 (rv_X10 C) rfl ⟨by decide +kernel, by decide +kernel, rfl⟩ ⟨rfl, rfl⟩ (by rw [hR]; exact ⟨Nat.le_of_ble_eq_true rfl, Nat.le_of_ble_eq_true rfl⟩) (Nat.le_of_ble_eq_true rfl) (by omega) (fun r_7 X1 M1 K1 h_8 => ?_)
        obtain ⟨er_7, hX1, hM1, hK1⟩ := h_8
        subst X1 M1 K1
        try simp only [sa_ap, si_ap, reduceIte, Nat.reduceEqDiff] at er_7
        refine g_if_eq C dX10_begin_48 (tgt := 62) (by decide) (fun c_48 => ?_) (fun c_48 => ?_)
        · try simp only [sa_ap, si_ap, reduceIte, Nat.reduceEqDiff, up_us, lg_cmp_lt, lg_cmp_gt, lg_cmp_le, lg_cmp_ge] at c_48
          refine g_aload_n C dX10_begin_62 0 rfl ?_
          refine gf_X10_countdown C tw330 dX10_begin_63 ?_
          refine g_iload_n C dX10_begin_66 1 rfl ?_
          refine g_aload_n C dX10_begin_67 0 rfl ?_
          refine gf_X10_now C tw335 dX10_begin_68 ?_
          refine g_iload_n C dX10_begin_71 2 rfl ?_
          refine g_iadd C dX10_begin_72 ?_
          refine g_aload_n C dX10_begin_73 0 rfl ?_
          refine gf_X10_now C tw335 dX10_begin_74 ?_
          refine g_iload_n C dX10_begin_77 3 rfl ?_
          refine g_iadd C dX10_begin_78 ?_
          refine g_callVvW C dX10_begin_79 (c_X1_start _ _ _ _ _ _ _ _ _ _ _ _) tw745 tw746 tw747 tw9 tw748 (rv_X1 C) rfl ⟨by decide +kernel, by decide +kernel, rfl⟩ ⟨rfl, rfl⟩ (by rw [hR]; exact ⟨Nat.le_of_ble_eq_true rfl, Nat.le_of_ble_eq_true rfl⟩) (Nat.le_of_ble_eq_true rfl) (by omega) (fun X1 M1 K1 h_9 => ?_)
          obtain ⟨hX1, hM1, hK1⟩ := h_9
          subst X1 M1 K1
          refine g_aload_n C dX10_begin_82 0 rfl ?_
          refine gf_X10_steps C tw324 dX10_begin_83 ?_
          refine g_callVvW C dX10_begin_86 (c_X8_startAgain _ _ _ _ _ _ _ _ _ z8 hz8 h8) tw749 tw750 tw751 tw3 tw752 (rv_X8 C) rfl ⟨by decide +kernel, by decide +kernel, rfl⟩ ⟨rfl, rfl⟩ (by rw [hR]; exact ⟨Nat.le_of_ble_eq_true rfl, Nat.le_of_ble_eq_true rfl⟩) (Nat.le_of_ble_eq_true rfl) (by omega) (fun X1 M1 K1 h_10 => ?_)
          obtain ⟨hX1, hM1, hK1⟩ := h_10
          subst X1 M1 K1
          refine g_aload_n C dX10_begin_89 0 rfl ?_
          refine gf_X10_rules C tw329 dX10_begin_90 ?_
          refine g_callVvW C dX10_begin_93 (c_X6_endWaivers _ _ _ _ _ _ _ _ _ z hz6 hzl) tw753 tw754 tw755 tw8 tw756 (rv_X6 C) rfl ⟨by decide +kernel, by decide +kernel, rfl⟩ ⟨rfl, rfl⟩ (by rw [hR]; exact ⟨Nat.le_of_ble_eq_true rfl, Nat.le_of_ble_eq_true rfl⟩) (Nat.le_of_ble_eq_true rfl) (by omega) (fun X1 M1 K1 h_11 => ?_)
          obtain ⟨hX1, hM1, hK1⟩ := h_11
          subst X1 M1 K1
          refine g_aload_n C dX10_begin_96 0 rfl ?_
          refine gf_X10_log C tw332 dX10_begin_97 ?_
          refine g_aload_n C dX10_begin_100 0 rfl ?_
          refine gf_X10_now C tw335 dX10_begin_101 ?_
          refine g_topi hv0 ?_
          refine g_bipush C dX10_begin_104 (v := 67) (by decide) ?_
          refine g_bipush C dX10_begin_106 (v := 99) (by decide) ?_
          have hk := kq (show kLs K 0 v [67] = kLg K 0 v 67 from rfl)
          have gl67 := kLg_le0 (K) v 67
          refine g_callVvW C dX10_begin_108 (c_X4_change _ _ _ _ _ _ _ _ _ v 67 99 (by omega) (by decide) ⟨by decide, by decide⟩ (by omega) (by omega)) tw757 tw758 tw759 tw11 tw760 (rv_X4 C) rfl ⟨by decide +kernel, by decide +kernel, rfl⟩ ⟨rfl, rfl⟩ (by rw [hR]; exact ⟨Nat.le_of_ble_eq_true rfl, Nat.le_of_ble_eq_true rfl⟩) (Nat.le_of_ble_eq_true rfl) (by omega) (fun X1 M1 K1 h_12 => ?_)
          obtain ⟨hX1, hM1, hK1⟩ := h_12
          subst X1 M1 K1
          refine g_aload_n C dX10_begin_111 0 rfl ?_
          refine gf_X10_now C tw335 dX10_begin_112 ?_
          refine g_iload_n C dX10_begin_115 1 rfl ?_
          refine g_isub C dX10_begin_116 ?_
          refine g_iretWX C hr hQ (by omega) (by omega) dX10_begin_117 ?_
          exact ⟨(by first | with_reducible rfl | (subst er_1 er_3 er_5 er_7; first | with_reducible rfl | (simp only [sa_ap, si_ap, si_sa, sa_sa, sa_3, sa_4, sa_5, sa_6, sa_7, sa_8, xk_begin, xn, bg_X, pch, kLs, up_us, up_up, c_9, c_20, c_31, c_48]; done) | (simp [sa_ap, si_ap, si_sa, sa_sa, sa_3, sa_4, sa_5, sa_6, sa_7, sa_8, xk_begin, xn, bg_X, pch, kLs, up_us, up_up, c_9, c_20, c_31, c_48]; done))), (by first | with_reducible rfl | (subst er_1 er_3 er_5 er_7; first | with_reducible rfl | (simp only [sa_ap, si_ap, si_sa, sa_sa, sa_3, sa_4, sa_5, sa_6, sa_7, sa_8, xk_begin, xn, bg_X, pch, kLs, up_us, up_up, c_9, c_20, c_31, c_48]; done) | (simp [sa_ap, si_ap, si_sa, sa_sa, sa_3, sa_4, sa_5, sa_6, sa_7, sa_8, xk_begin, xn, bg_X, pch, kLs, up_us, up_up, c_9, c_20, c_31, c_48]; done))), (by first | with_reducible rfl | (subst er_1 er_3 er_5 er_7; first | with_reducible rfl | (simp only [sa_ap, si_ap, si_sa, sa_sa, sa_3, sa_4, sa_5, sa_6, sa_7, sa_8, xk_begin, xn, bg_X, pch, kLs, up_us, up_up, c_9, c_20, c_31, c_48]; done) | (simp [sa_ap, si_ap, si_sa, sa_sa, sa_3, sa_4, sa_5, sa_6, sa_7, sa_8, xk_begin, xn, bg_X, pch, kLs, up_us, up_up, c_9, c_20, c_31, c_48]; done))), rfl, (by first | with_reducible rfl | (subst er_1 er_3 er_5 er_7; first | with_reducible rfl | (simp only [sa_ap, si_ap, si_sa, sa_sa, sa_3, sa_4, sa_5, sa_6, sa_7, sa_8, xk_begin, xn, bg_X, pch, kLs, up_us, up_up, c_9, c_20, c_31, c_48]; done) | (simp [sa_ap, si_ap, si_sa, sa_sa, sa_3, sa_4, sa_5, sa_6, sa_7, sa_8, xk_begin, xn, bg_X, pch, kLs, up_us, up_up, c_9, c_20, c_31, c_48]; done)))⟩
        · try simp only [sa_ap, si_ap, reduceIte, Nat.reduceEqDiff, up_us, lg_cmp_lt, lg_cmp_gt, lg_cmp_le, lg_cmp_ge] at c_48
          refine g_throwW C hst ht hQ th_138 th_ot_138 tw563 tw23 (i := 20) ⟨by decide, rfl⟩ dX10_begin_51 dX10_begin_54 dX10_begin_55 dX10_begin_58 dX10_begin_61 (by rw [hR]; exact ⟨Nat.le_of_ble_eq_true rfl, Nat.le_of_ble_eq_true rfl⟩) (by omega) (by omega) ?_
          exact ⟨(by first | with_reducible rfl | (subst er_1 er_3 er_5 er_7; first | with_reducible rfl | (simp only [sa_ap, si_ap, si_sa, sa_sa, sa_3, sa_4, sa_5, sa_6, sa_7, sa_8, xk_begin, xn, bg_X, pch, kLs, up_us, up_up, c_9, c_20, c_31, c_48]; done) | (simp [sa_ap, si_ap, si_sa, sa_sa, sa_3, sa_4, sa_5, sa_6, sa_7, sa_8, xk_begin, xn, bg_X, pch, kLs, up_us, up_up, c_9, c_20, c_31, c_48]; done))), (by first | with_reducible rfl | (subst er_1 er_3 er_5 er_7; first | with_reducible rfl | (simp only [sa_ap, si_ap, si_sa, sa_sa, sa_3, sa_4, sa_5, sa_6, sa_7, sa_8, xk_begin, xn, bg_X, pch, kLs, up_us, up_up, c_9, c_20, c_31, c_48]; done) | (simp [sa_ap, si_ap, si_sa, sa_sa, sa_3, sa_4, sa_5, sa_6, sa_7, sa_8, xk_begin, xn, bg_X, pch, kLs, up_us, up_up, c_9, c_20, c_31, c_48]; done))), (by first | with_reducible rfl | (subst er_1 er_3 er_5 er_7; first | with_reducible rfl | (simp only [sa_ap, si_ap, si_sa, sa_sa, sa_3, sa_4, sa_5, sa_6, sa_7, sa_8, xk_begin, xn, bg_X, pch, kLs, up_us, up_up, c_9, c_20, c_31, c_48]; done) | (simp [sa_ap, si_ap, si_sa, sa_sa, sa_3, sa_4, sa_5, sa_6, sa_7, sa_8, xk_begin, xn, bg_X, pch, kLs, up_us, up_up, c_9, c_20, c_31, c_48]; done))), rfl, rfl⟩
      · try simp only [sa_ap, si_ap, reduceIte, Nat.reduceEqDiff, up_us, lg_cmp_lt, lg_cmp_gt, lg_cmp_le, lg_cmp_ge] at c_31
        refine g_throwS C hst ht hQ th_103 th_ot_103 tw506 tw21 (i := 3) ⟨by decide, rfl⟩ dX10_begin_34 dX10_begin_37 dX10_begin_38 dX10_begin_40 dX10_begin_43 (by rw [hR]; exact ⟨Nat.le_of_ble_eq_true rfl, Nat.le_of_ble_eq_true rfl⟩) (by omega) (by omega) ?_
        exact ⟨(by first | with_reducible rfl | (subst er_1 er_3 er_5; first | with_reducible rfl | (simp only [sa_ap, si_ap, si_sa, sa_sa, sa_3, sa_4, sa_5, sa_6, sa_7, sa_8, xk_begin, xn, bg_X, pch, kLs, up_us, up_up, c_9, c_20, c_31]; done) | (simp [sa_ap, si_ap, si_sa, sa_sa, sa_3, sa_4, sa_5, sa_6, sa_7, sa_8, xk_begin, xn, bg_X, pch, kLs, up_us, up_up, c_9, c_20, c_31]; done))), (by first | with_reducible rfl | (subst er_1 er_3 er_5; first | with_reducible rfl | (simp only [sa_ap, si_ap, si_sa, sa_sa, sa_3, sa_4, sa_5, sa_6, sa_7, sa_8, xk_begin, xn, bg_X, pch, kLs, up_us, up_up, c_9, c_20, c_31]; done) | (simp [sa_ap, si_ap, si_sa, sa_sa, sa_3, sa_4, sa_5, sa_6, sa_7, sa_8, xk_begin, xn, bg_X, pch, kLs, up_us, up_up, c_9, c_20, c_31]; done))), (by first | with_reducible rfl | (subst er_1 er_3 er_5; first | with_reducible rfl | (simp only [sa_ap, si_ap, si_sa, sa_sa, sa_3, sa_4, sa_5, sa_6, sa_7, sa_8, xk_begin, xn, bg_X, pch, kLs, up_us, up_up, c_9, c_20, c_31]; done) | (simp [sa_ap, si_ap, si_sa, sa_sa, sa_3, sa_4, sa_5, sa_6, sa_7, sa_8, xk_begin, xn, bg_X, pch, kLs, up_us, up_up, c_9, c_20, c_31]; done))), rfl, rfl⟩

set_option maxHeartbeats 400000 in
set_option maxRecDepth 100000 in
/-- recycle.recycle -/
theorem c_X10_recycle (l : Launch) (D : va_G) (cy : Nat → ClassId) (A : Nat → Prop) (ad sad : Nat → Nat) (X M : XF) (K : KF) (p1 : Int32) (v z z5 z8 : Nat) (hs : okS v z z5 z8 X) (hzl : z ≤ 12) (h5 : z5 ≤ 6) (h8 : z8 ≤ 16) (hv : v < 999999) (h16 : 16 ≤ K.2.1 0) (hcap : (kLs K 0 v [82]).2.1 0 < 2 ^ 26) (hst : l.stackTraces = false) : vx_Met l yX10_recycle (wsA yX10_recycle cX10_recycle 2 (some .int)) ({ frames := 7, cells := (kLs K 0 v [82]).2.1 4 - K.2.1 4 + 1, slots := (kLs K 0 v [82]).2.1 6 - K.2.1 6 + 6, locals := 213 }) (PcW D cy A ad sad X M K [.ref (ad 0), .int p1]) (QiW D cy A ad (fun r X1 M1 K1 => xk_rec (X 14) z5 (X 118 0) (X 106 0) p1 = 0 ∧ r = sp_undoN (X 8) (X 12) (X 14 p1.toNatClampNeg) z8 ∧ X1 = rc_X z z8 p1.toNatClampNeg X ∧ M1 = M ∧ K1 = (kLs K 0 v [82]))) (XcW D cy A ad (fun E X1 M1 K1 => ¬ xk_rec (X 14) z5 (X 118 0) (X 106 0) p1 = 0 ∧ E = xn "java/lang/IndexOutOfBoundsException" "java/lang/UnsupportedOperationException" "java/lang/UnsupportedOperationException" (xk_rec (X 14) z5 (X 118 0) (X 106 0) p1) ∧ X1 = X ∧ M1 = M ∧ K1 = K)) ((kLs K 0 v [82]).2.1 4 - K.2.1 4 + 1) ((kLs K 0 v [82]).2.1 6 - K.2.1 6 + 6) A := by
  refine vet_ofW [(0, .ref (ad 0)), (1, .int p1)] (by decide +kernel) (Nat.le_of_ble_eq_true rfl) rfl ?_
  intro G C hl hR hL hD hcy hA had hsa hr ht hQ
  subst hD hcy hA had hsa hl
  have hrc : (gR G).cells = (kLs K 0 v [82]).2.1 4 - K.2.1 4 + 1 := by rw [hR]
  have hrs : (gR G).slots = (kLs K 0 v [82]).2.1 6 - K.2.1 6 + 6 := by rw [hR]
  obtain ⟨hv0, hz8, hz5, hz6, h113, hk25, ho⟩ := id hs
  refine g_iload_n C dX10_recycle_0 1 rfl ?_
  refine g_aload_n C dX10_recycle_1 0 rfl ?_
  refine gf_X10_marks C tw325 dX10_recycle_2 ?_
  refine gf_X5_size C tw113 dX10_recycle_5 ?_
  refine g_topi hz5 ?_
  refine g_callSiW C dX10_recycle_8 (c_X10_isBelow _ _ _ _ _ _ _ _ _ _ _) tw499 tw500 tw1 tw501 rfl ⟨by decide +kernel, by decide +kernel, rfl⟩ ⟨rfl, rfl⟩ (by rw [hR]; exact ⟨Nat.le_of_ble_eq_true rfl, Nat.le_of_ble_eq_true rfl⟩) (Nat.le_of_ble_eq_true rfl) (by omega) (fun r_1 X1 M1 K1 h_2 => ?_)
  obtain ⟨er_1, hX1, hM1, hK1⟩ := h_2
  subst X1 M1 K1
  try simp only [sa_ap, si_ap, reduceIte, Nat.reduceEqDiff] at er_1
  refine g_if_ne C dX10_recycle_11 (tgt := 25) (by decide) (fun c_11 => ?_) (fun c_11 => ?_)
  · try simp only [sa_ap, si_ap, reduceIte, Nat.reduceEqDiff, up_us, lg_cmp_lt, lg_cmp_gt, lg_cmp_le, lg_cmp_ge] at c_11
    obtain ⟨j, hj, rfl⟩ := bel_ix (p := p1) (s := nI z5) (n := z5) rfl (by omega) (by rw [← er_1]; exact c_11)
    have c_clj : (nI j).toNatClampNeg = j := nI_clamp (by omega)
    refine g_aload_n C dX10_recycle_25 0 rfl ?_
    refine g_callViW C dX10_recycle_26 (c_X10_isCountOn _ _ _ _ _ _ _ _ _ ) tw555 tw557 tp4 tw1 tw558 (rv_X10 C) rfl ⟨by decide +kernel, by decide +kernel, rfl⟩ ⟨rfl, rfl⟩ (by rw [hR]; exact ⟨Nat.le_of_ble_eq_true rfl, Nat.le_of_ble_eq_true rfl⟩) (Nat.le_of_ble_eq_true rfl) (by omega) (fun r_3 X1 M1 K1 h_4 => ?_)
    obtain ⟨er_3, hX1, hM1, hK1⟩ := h_4
    subst X1 M1 K1
    try simp only [sa_ap, si_ap, reduceIte, Nat.reduceEqDiff] at er_3
    refine g_if_eq C dX10_recycle_29 (tgt := 51) (by decide) (fun c_29 => ?_) (fun c_29 => ?_)
    · try simp only [sa_ap, si_ap, reduceIte, Nat.reduceEqDiff, up_us, lg_cmp_lt, lg_cmp_gt, lg_cmp_le, lg_cmp_ge] at c_29
      refine g_throwW C hst ht hQ th_170 th_ot_170 tw625 tw26 (i := 22) ⟨by decide, rfl⟩ dX10_recycle_51 dX10_recycle_54 dX10_recycle_55 dX10_recycle_58 dX10_recycle_61 (by rw [hR]; exact ⟨Nat.le_of_ble_eq_true rfl, Nat.le_of_ble_eq_true rfl⟩) (by omega) (by omega) ?_
      exact ⟨(by first | with_reducible rfl | (subst er_1 er_3; first | with_reducible rfl | (simp only [sa_ap, si_ap, si_sa, sa_sa, sa_3, sa_4, sa_5, sa_6, sa_7, sa_8, xk_rec, xn, rc_X, pch, kLs, up_us, up_up, c_11, c_clj, c_29]; done) | (simp [sa_ap, si_ap, si_sa, sa_sa, sa_3, sa_4, sa_5, sa_6, sa_7, sa_8, xk_rec, xn, rc_X, pch, kLs, up_us, up_up, c_11, c_clj, c_29]; done))), (by first | with_reducible rfl | (subst er_1 er_3; first | with_reducible rfl | (simp only [sa_ap, si_ap, si_sa, sa_sa, sa_3, sa_4, sa_5, sa_6, sa_7, sa_8, xk_rec, xn, rc_X, pch, kLs, up_us, up_up, c_11, c_clj, c_29]; done) | (simp [sa_ap, si_ap, si_sa, sa_sa, sa_3, sa_4, sa_5, sa_6, sa_7, sa_8, xk_rec, xn, rc_X, pch, kLs, up_us, up_up, c_11, c_clj, c_29]; done))), (by first | with_reducible rfl | (subst er_1 er_3; first | with_reducible rfl | (simp only [sa_ap, si_ap, si_sa, sa_sa, sa_3, sa_4, sa_5, sa_6, sa_7, sa_8, xk_rec, xn, rc_X, pch, kLs, up_us, up_up, c_11, c_clj, c_29]; done) | (simp [sa_ap, si_ap, si_sa, sa_sa, sa_3, sa_4, sa_5, sa_6, sa_7, sa_8, xk_rec, xn, rc_X, pch, kLs, up_us, up_up, c_11, c_clj, c_29]; done))), rfl, rfl⟩
    · try simp only [sa_ap, si_ap, reduceIte, Nat.reduceEqDiff, up_us, lg_cmp_lt, lg_cmp_gt, lg_cmp_le, lg_cmp_ge] at c_29
      refine g_aload_n C dX10_recycle_32 0 rfl ?_
      refine gf_X10_countdown C tw330 dX10_recycle_33 ?_
      refine gf_X1_at C tw216 dX10_recycle_36 ?_
      refine g_aload_n C dX10_recycle_39 0 rfl ?_
      refine gf_X10_marks C tw325 dX10_recycle_40 ?_
      refine gf_X5_count C tw109 dX10_recycle_43 ?_
      refine g_iload_n C dX10_recycle_46 1 rfl ?_
      refine al_14 C (by omega) dX10_recycle_47 ?_
      refine g_icmp_gt C dX10_recycle_48 (tgt := 62) (by decide) (fun c_48 => ?_) (fun c_48 => ?_)
      · try simp only [sa_ap, si_ap, reduceIte, Nat.reduceEqDiff, up_us, lg_cmp_lt, lg_cmp_gt, lg_cmp_le, lg_cmp_ge] at c_48
        refine g_aload_n C dX10_recycle_62 0 rfl ?_
        refine gf_X10_countdown C tw330 dX10_recycle_63 ?_
        refine g_aload_n C dX10_recycle_66 0 rfl ?_
        refine gf_X10_marks C tw325 dX10_recycle_67 ?_
        refine gf_X5_count C tw109 dX10_recycle_70 ?_
        refine g_iload_n C dX10_recycle_73 1 rfl ?_
        refine al_14 C (by omega) dX10_recycle_74 ?_
        refine g_callVvW C dX10_recycle_75 (c_X1_setBack _ _ _ _ _ _ _ _ _ _) tw892 tw893 tw894 tw9 tw895 (rv_X1 C) rfl ⟨by decide +kernel, by decide +kernel, rfl⟩ ⟨rfl, rfl⟩ (by rw [hR]; exact ⟨Nat.le_of_ble_eq_true rfl, Nat.le_of_ble_eq_true rfl⟩) (Nat.le_of_ble_eq_true rfl) (by omega) (fun X1 M1 K1 h_5 => ?_)
        obtain ⟨hX1, hM1, hK1⟩ := h_5
        subst X1 M1 K1
        refine g_aload_n C dX10_recycle_78 0 rfl ?_
        refine gf_X10_rules C tw329 dX10_recycle_79 ?_
        refine g_callVvW C dX10_recycle_82 (c_X6_endWaivers _ _ _ _ _ _ _ _ _ z hz6 hzl) tw753 tw754 tw755 tw8 tw756 (rv_X6 C) rfl ⟨by decide +kernel, by decide +kernel, rfl⟩ ⟨rfl, rfl⟩ (by rw [hR]; exact ⟨Nat.le_of_ble_eq_true rfl, Nat.le_of_ble_eq_true rfl⟩) (Nat.le_of_ble_eq_true rfl) (by omega) (fun X1 M1 K1 h_6 => ?_)
        obtain ⟨hX1, hM1, hK1⟩ := h_6
        subst X1 M1 K1
        refine g_aload_n C dX10_recycle_85 0 rfl ?_
        refine gf_X10_log C tw332 dX10_recycle_86 ?_
        refine g_aload_n C dX10_recycle_89 0 rfl ?_
        refine gf_X10_now C tw335 dX10_recycle_90 ?_
        refine g_topi hv0 ?_
        refine g_bipush C dX10_recycle_93 (v := 82) (by decide) ?_
        refine g_bipush C dX10_recycle_95 (v := 99) (by decide) ?_
        have hk := kq (show kLs K 0 v [82] = kLg K 0 v 82 from rfl)
        have gl82 := kLg_le0 (K) v 82
        refine g_callVvW C dX10_recycle_97 (c_X4_change _ _ _ _ _ _ _ _ _ v 82 99 (by omega) (by decide) ⟨by decide, by decide⟩ (by omega) (by omega)) tw757 tw758 tw759 tw11 tw760 (rv_X4 C) rfl ⟨by decide +kernel, by decide +kernel, rfl⟩ ⟨rfl, rfl⟩ (by rw [hR]; exact ⟨Nat.le_of_ble_eq_true rfl, Nat.le_of_ble_eq_true rfl⟩) (Nat.le_of_ble_eq_true rfl) (by omega) (fun X1 M1 K1 h_7 => ?_)
        obtain ⟨hX1, hM1, hK1⟩ := h_7
        subst X1 M1 K1
        refine g_aload_n C dX10_recycle_100 0 rfl ?_
        refine gf_X10_steps C tw324 dX10_recycle_101 ?_
        refine g_aload_n C dX10_recycle_104 0 rfl ?_
        refine gf_X10_marks C tw325 dX10_recycle_105 ?_
        refine gf_X5_count C tw109 dX10_recycle_108 ?_
        refine g_iload_n C dX10_recycle_111 1 rfl ?_
        refine al_14 C (by omega) dX10_recycle_112 ?_
        refine g_callViW C dX10_recycle_113 (c_X8_undoFrom _ _ _ _ _ _ _ _ _ _ z8 hz8 h8) tw896 tw897 tw898 tw3 tw899 (rv_X8 C) rfl ⟨by decide +kernel, by decide +kernel, rfl⟩ ⟨rfl, rfl⟩ (by rw [hR]; exact ⟨Nat.le_of_ble_eq_true rfl, Nat.le_of_ble_eq_true rfl⟩) (Nat.le_of_ble_eq_true rfl) (by omega) (fun r_8 X1 M1 K1 h_9 => ?_)
        obtain ⟨er_8, hX1, hM1, hK1⟩ := h_9
        subst X1 M1 K1
        try simp only [sa_ap, si_ap, reduceIte, Nat.reduceEqDiff] at er_8
        refine g_iretWX C hr hQ (by omega) (by omega) dX10_recycle_116 ?_
        exact ⟨(by first | with_reducible rfl | (subst er_1 er_3 er_8; first | with_reducible rfl | (simp only [sa_ap, si_ap, si_sa, sa_sa, sa_3, sa_4, sa_5, sa_6, sa_7, sa_8, xk_rec, xn, rc_X, pch, kLs, up_us, up_up, c_11, c_clj, c_29, c_48]; done) | (simp [sa_ap, si_ap, si_sa, sa_sa, sa_3, sa_4, sa_5, sa_6, sa_7, sa_8, xk_rec, xn, rc_X, pch, kLs, up_us, up_up, c_11, c_clj, c_29, c_48]; done))), (by first | with_reducible rfl | (subst er_1 er_3 er_8; first | with_reducible rfl | (simp only [sa_ap, si_ap, si_sa, sa_sa, sa_3, sa_4, sa_5, sa_6, sa_7, sa_8, xk_rec, xn, rc_X, pch, kLs, up_us, up_up, c_11, c_clj, c_29, c_48]; done) | (simp [sa_ap, si_ap, si_sa, sa_sa, sa_3, sa_4, sa_5, sa_6, sa_7, sa_8, xk_rec, xn, rc_X, pch, kLs, up_us, up_up, c_11, c_clj, c_29, c_48]; done))), (by first | with_reducible rfl | (subst er_1 er_3 er_8; first | with_reducible rfl | (simp only [sa_ap, si_ap, si_sa, sa_sa, sa_3, sa_4, sa_5, sa_6, sa_7, sa_8, xk_rec, xn, rc_X, pch, kLs, up_us, up_up, c_11, c_clj, c_29, c_48]; done) | (simp [sa_ap, si_ap, si_sa, sa_sa, sa_3, sa_4, sa_5, sa_6, sa_7, sa_8, xk_rec, xn, rc_X, pch, kLs, up_us, up_up, c_11, c_clj, c_29, c_48]; done))), rfl, (by first | with_reducible rfl | (subst er_1 er_3 er_8; first | with_reducible rfl | (simp only [sa_ap, si_ap, si_sa, sa_sa, sa_3, sa_4, sa_5, sa_6, sa_7, sa_8, xk_rec, xn, rc_X, pch, kLs, up_us, up_up, c_11, c_clj, c_29, c_48]; done) | (simp [sa_ap, si_ap, si_sa, sa_sa, sa_3, sa_4, sa_5, sa_6, sa_7, sa_8, xk_rec, xn, rc_X, pch, kLs, up_us, up_up, c_11, c_clj, c_29, c_48]; done)))⟩
      · try simp only [sa_ap, si_ap, reduceIte, Nat.reduceEqDiff, up_us, lg_cmp_lt, lg_cmp_gt, lg_cmp_le, lg_cmp_ge] at c_48
        refine g_throwW C hst ht hQ th_170 th_ot_170 tw625 tw26 (i := 22) ⟨by decide, rfl⟩ dX10_recycle_51 dX10_recycle_54 dX10_recycle_55 dX10_recycle_58 dX10_recycle_61 (by rw [hR]; exact ⟨Nat.le_of_ble_eq_true rfl, Nat.le_of_ble_eq_true rfl⟩) (by omega) (by omega) ?_
        exact ⟨(by first | with_reducible rfl | (subst er_1 er_3; first | with_reducible rfl | (simp only [sa_ap, si_ap, si_sa, sa_sa, sa_3, sa_4, sa_5, sa_6, sa_7, sa_8, xk_rec, xn, rc_X, pch, kLs, up_us, up_up, c_11, c_clj, c_29, c_48]; done) | (simp [sa_ap, si_ap, si_sa, sa_sa, sa_3, sa_4, sa_5, sa_6, sa_7, sa_8, xk_rec, xn, rc_X, pch, kLs, up_us, up_up, c_11, c_clj, c_29, c_48]; done))), (by first | with_reducible rfl | (subst er_1 er_3; first | with_reducible rfl | (simp only [sa_ap, si_ap, si_sa, sa_sa, sa_3, sa_4, sa_5, sa_6, sa_7, sa_8, xk_rec, xn, rc_X, pch, kLs, up_us, up_up, c_11, c_clj, c_29, c_48]; done) | (simp [sa_ap, si_ap, si_sa, sa_sa, sa_3, sa_4, sa_5, sa_6, sa_7, sa_8, xk_rec, xn, rc_X, pch, kLs, up_us, up_up, c_11, c_clj, c_29, c_48]; done))), (by first | with_reducible rfl | (subst er_1 er_3; first | with_reducible rfl | (simp only [sa_ap, si_ap, si_sa, sa_sa, sa_3, sa_4, sa_5, sa_6, sa_7, sa_8, xk_rec, xn, rc_X, pch, kLs, up_us, up_up, c_11, c_clj, c_29, c_48]; done) | (simp [sa_ap, si_ap, si_sa, sa_sa, sa_3, sa_4, sa_5, sa_6, sa_7, sa_8, xk_rec, xn, rc_X, pch, kLs, up_us, up_up, c_11, c_clj, c_29, c_48]; done))), rfl, rfl⟩
  · try simp only [sa_ap, si_ap, reduceIte, Nat.reduceEqDiff, up_us, lg_cmp_lt, lg_cmp_gt, lg_cmp_le, lg_cmp_ge] at c_11
    refine g_throwW C hst ht hQ th_146 th_ot_146 tw587 tw19 (i := 21) ⟨by decide, rfl⟩ dX10_recycle_14 dX10_recycle_17 dX10_recycle_18 dX10_recycle_21 dX10_recycle_24 (by rw [hR]; exact ⟨Nat.le_of_ble_eq_true rfl, Nat.le_of_ble_eq_true rfl⟩) (by omega) (by omega) ?_
    exact ⟨(by first | with_reducible rfl | (subst er_1; first | with_reducible rfl | (simp only [sa_ap, si_ap, si_sa, sa_sa, sa_3, sa_4, sa_5, sa_6, sa_7, sa_8, xk_rec, xn, rc_X, pch, kLs, up_us, up_up, c_11]; done) | (simp [sa_ap, si_ap, si_sa, sa_sa, sa_3, sa_4, sa_5, sa_6, sa_7, sa_8, xk_rec, xn, rc_X, pch, kLs, up_us, up_up, c_11]; done))), (by first | with_reducible rfl | (subst er_1; first | with_reducible rfl | (simp only [sa_ap, si_ap, si_sa, sa_sa, sa_3, sa_4, sa_5, sa_6, sa_7, sa_8, xk_rec, xn, rc_X, pch, kLs, up_us, up_up, c_11]; done) | (simp [sa_ap, si_ap, si_sa, sa_sa, sa_3, sa_4, sa_5, sa_6, sa_7, sa_8, xk_rec, xn, rc_X, pch, kLs, up_us, up_up, c_11]; done))), (by first | with_reducible rfl | (subst er_1; first | with_reducible rfl | (simp only [sa_ap, si_ap, si_sa, sa_sa, sa_3, sa_4, sa_5, sa_6, sa_7, sa_8, xk_rec, xn, rc_X, pch, kLs, up_us, up_up, c_11]; done) | (simp [sa_ap, si_ap, si_sa, sa_sa, sa_3, sa_4, sa_5, sa_6, sa_7, sa_8, xk_rec, xn, rc_X, pch, kLs, up_us, up_up, c_11]; done))), rfl, rfl⟩

set_option maxHeartbeats 400000 in
set_option maxRecDepth 100000 in
/-- scrub.scrub -/
theorem c_X10_scrub (l : Launch) (D : va_G) (cy : Nat → ClassId) (A : Nat → Prop) (ad sad : Nat → Nat) (X M : XF) (K : KF) (v : Nat) (hv : v < 999999) (hv0 : X 101 0 = nI v) (h16 : 16 ≤ K.2.1 0) (hcap : (kLs K 0 v ((sb_A X).2)).2.1 0 < 2 ^ 26) : Met l yX10_scrub (wsA yX10_scrub cX10_scrub 1 (some .boolean)) ({ frames := 7, cells := (kLs K 0 v ((sb_A X).2)).2.1 4 - K.2.1 4, slots := (kLs K 0 v ((sb_A X).2)).2.1 6 - K.2.1 6, locals := 213 }) (PcW D cy A ad sad X M K [.ref (ad 0)]) (QiW D cy A ad (fun r X1 M1 K1 => r = (if md_ic (X 118 0) = 0 then 0 else 1) ∧ X1 = (sb_A X).1 ∧ M1 = M ∧ K1 = (kLs K 0 v ((sb_A X).2)))) ((kLs K 0 v ((sb_A X).2)).2.1 4 - K.2.1 4) ((kLs K 0 v ((sb_A X).2)).2.1 6 - K.2.1 6) A := by
  refine met_ofW [(0, .ref (ad 0))] (by decide +kernel) (Nat.le_of_ble_eq_true rfl) rfl ?_
  intro G C hl hR hL hD hcy hA had hsa hr hQ
  subst hD hcy hA had hsa hl
  have hrc : (gR G).cells = (kLs K 0 v ((sb_A X).2)).2.1 4 - K.2.1 4 := by rw [hR]
  have hrs : (gR G).slots = (kLs K 0 v ((sb_A X).2)).2.1 6 - K.2.1 6 := by rw [hR]
  refine g_aload_n C dX10_scrub_0 0 rfl ?_
  refine g_callViW C dX10_scrub_1 (c_X10_isCountOn _ _ _ _ _ _ _ _ _ ) tw555 tw557 tp4 tw1 tw558 (rv_X10 C) rfl ⟨by decide +kernel, by decide +kernel, rfl⟩ ⟨rfl, rfl⟩ (by rw [hR]; exact ⟨Nat.le_of_ble_eq_true rfl, Nat.le_of_ble_eq_true rfl⟩) (Nat.le_of_ble_eq_true rfl) (by omega) (fun r_1 X1 M1 K1 h_2 => ?_)
  obtain ⟨er_1, hX1, hM1, hK1⟩ := h_2
  subst X1 M1 K1
  try simp only [sa_ap, si_ap, reduceIte, Nat.reduceEqDiff] at er_1
  have c_i := er_1
  refine g_if_ne C dX10_scrub_4 (tgt := 9) (by decide) (fun c_4 => ?_) (fun c_4 => ?_)
  · try simp only [sa_ap, si_ap, reduceIte, Nat.reduceEqDiff, up_us, lg_cmp_lt, lg_cmp_gt, lg_cmp_le, lg_cmp_ge] at c_4
    rw [c_i] at c_4
    refine g_aload_n C dX10_scrub_9 0 rfl ?_
    refine gf_X10_countdown C tw330 dX10_scrub_10 ?_
    refine g_bipush C dX10_scrub_13 (v := 99) (by decide) ?_
    refine g_iconst C dX10_scrub_15 (v := (-1)) (by decide) ?_
    refine g_callVvW C dX10_scrub_16 (c_X1_blame _ _ _ _ _ _ _ _ _ _ _ ⟨by decide, by decide⟩) tw1013 tw956 tw957 tw9 tw958 (rv_X1 C) rfl ⟨by decide +kernel, by decide +kernel, rfl⟩ ⟨rfl, rfl⟩ (by rw [hR]; exact ⟨Nat.le_of_ble_eq_true rfl, Nat.le_of_ble_eq_true rfl⟩) (Nat.le_of_ble_eq_true rfl) (by omega) (fun X1 M1 K1 h_3 => ?_)
    obtain ⟨hX1, hM1, hK1⟩ := h_3
    subst X1 M1 K1
    refine g_aload_n C dX10_scrub_19 0 rfl ?_
    refine gf_X10_log C tw332 dX10_scrub_20 ?_
    refine g_aload_n C dX10_scrub_23 0 rfl ?_
    refine gf_X10_now C tw335 dX10_scrub_24 ?_
    refine g_topi hv0 ?_
    refine g_bipush C dX10_scrub_27 (v := 83) (by decide) ?_
    refine g_bipush C dX10_scrub_29 (v := 115) (by decide) ?_
    have hk := kq (show kLs K 0 v (sb_A X).2 = kLg K 0 v 83 by simp [sb_A, kLs, er_1, c_4])
    have gl83 := kLg_le0 (K) v 83
    refine g_callVvW C dX10_scrub_31 (c_X4_change _ _ _ _ _ _ _ _ _ v 83 115 (by omega) (by decide) ⟨by decide, by decide⟩ (by omega) (by omega)) tw757 tw758 tw759 tw11 tw760 (rv_X4 C) rfl ⟨by decide +kernel, by decide +kernel, rfl⟩ ⟨rfl, rfl⟩ (by rw [hR]; exact ⟨Nat.le_of_ble_eq_true rfl, Nat.le_of_ble_eq_true rfl⟩) (Nat.le_of_ble_eq_true rfl) (by omega) (fun X1 M1 K1 h_4 => ?_)
    obtain ⟨hX1, hM1, hK1⟩ := h_4
    subst X1 M1 K1
    refine g_iconst C dX10_scrub_34 (v := 1) (by decide) ?_
    refine g_zretW C hr (by decide) hQ (by omega) (by omega) dX10_scrub_35 ?_
    exact ⟨(by first | with_reducible rfl | (subst er_1; first | with_reducible rfl | (simp only [sa_ap, si_ap, si_sa, sa_sa, sa_3, sa_4, sa_5, sa_6, sa_7, sa_8, sb_A, pch, kLs, up_us, up_up, c_4]; done) | (simp [sa_ap, si_ap, si_sa, sa_sa, sa_3, sa_4, sa_5, sa_6, sa_7, sa_8, sb_A, pch, kLs, up_us, up_up, c_4]; done))), (by first | with_reducible rfl | (subst er_1; first | with_reducible rfl | (simp only [sa_ap, si_ap, si_sa, sa_sa, sa_3, sa_4, sa_5, sa_6, sa_7, sa_8, sb_A, pch, kLs, up_us, up_up, c_4]; done) | (simp [sa_ap, si_ap, si_sa, sa_sa, sa_3, sa_4, sa_5, sa_6, sa_7, sa_8, sb_A, pch, kLs, up_us, up_up, c_4]; done))), rfl, (by first | with_reducible rfl | (subst er_1; first | with_reducible rfl | (simp only [sa_ap, si_ap, si_sa, sa_sa, sa_3, sa_4, sa_5, sa_6, sa_7, sa_8, sb_A, pch, kLs, up_us, up_up, c_4]; done) | (simp [sa_ap, si_ap, si_sa, sa_sa, sa_3, sa_4, sa_5, sa_6, sa_7, sa_8, sb_A, pch, kLs, up_us, up_up, c_4]; done)))⟩
  · try simp only [sa_ap, si_ap, reduceIte, Nat.reduceEqDiff, up_us, lg_cmp_lt, lg_cmp_gt, lg_cmp_le, lg_cmp_ge] at c_4
    rw [c_i] at c_4
    refine g_iconst C dX10_scrub_7 (v := 0) (by decide) ?_
    refine g_zretW C hr (by decide) hQ (by omega) (by omega) dX10_scrub_8 ?_
    exact ⟨(by first | with_reducible rfl | (subst er_1; first | with_reducible rfl | (simp only [sa_ap, si_ap, si_sa, sa_sa, sa_3, sa_4, sa_5, sa_6, sa_7, sa_8, sb_A, pch, kLs, up_us, up_up, c_4]; done) | (simp [sa_ap, si_ap, si_sa, sa_sa, sa_3, sa_4, sa_5, sa_6, sa_7, sa_8, sb_A, pch, kLs, up_us, up_up, c_4]; done))), (by first | with_reducible rfl | (subst er_1; first | with_reducible rfl | (simp only [sa_ap, si_ap, si_sa, sa_sa, sa_3, sa_4, sa_5, sa_6, sa_7, sa_8, sb_A, pch, kLs, up_us, up_up, c_4]; done) | (simp [sa_ap, si_ap, si_sa, sa_sa, sa_3, sa_4, sa_5, sa_6, sa_7, sa_8, sb_A, pch, kLs, up_us, up_up, c_4]; done))), rfl, (by first | with_reducible rfl | (subst er_1; first | with_reducible rfl | (simp only [sa_ap, si_ap, si_sa, sa_sa, sa_3, sa_4, sa_5, sa_6, sa_7, sa_8, sb_A, pch, kLs, up_us, up_up, c_4]; done) | (simp [sa_ap, si_ap, si_sa, sa_sa, sa_3, sa_4, sa_5, sa_6, sa_7, sa_8, sb_A, pch, kLs, up_us, up_up, c_4]; done)))⟩

set_option maxHeartbeats 400000 in
set_option maxRecDepth 100000 in
/-- pass.pass -/
theorem c_X10_pass (l : Launch) (D : va_G) (cy : Nat → ClassId) (A : Nat → Prop) (ad sad : Nat → Nat) (X M : XF) (K : KF) (p1 : Int32) (v z z5 z8 : Nat) (hs : okS v z z5 z8 X) (hzl : z ≤ 12) (h5 : z5 ≤ 6) (h8 : z8 ≤ 16) (hv : v ≤ 100000) (h16 : 16 ≤ K.2.1 0) (hcap : (ps_K z z5 z8 v X K p1.toNatClampNeg).2.1 0 < 2 ^ 26) (hst : l.stackTraces = false) : vx_Met l yX10_pass (wsA yX10_pass cX10_pass 3 (some .int)) ({ frames := 10, cells := (ps_K z z5 z8 v X K p1.toNatClampNeg).2.1 4 - K.2.1 4 + 1, slots := (ps_K z z5 z8 v X K p1.toNatClampNeg).2.1 6 - K.2.1 6 + 6, locals := 277 }) (PcW D cy A ad sad X M K [.ref (ad 0), .int p1]) (QiW D cy A ad (fun r X1 M1 K1 => xk_pass (X 101 0) p1 = 0 ∧ r = nI (v + p1.toNatClampNeg) ∧ X1 = ps_X z z5 z8 v X p1.toNatClampNeg ∧ M1 = M ∧ K1 = (ps_K z z5 z8 v X K p1.toNatClampNeg))) (XcW D cy A ad (fun E X1 M1 K1 => ¬ xk_pass (X 101 0) p1 = 0 ∧ E = xn "java/lang/IllegalArgumentException" "java/lang/IllegalStateException" "java/lang/IllegalStateException" (xk_pass (X 101 0) p1) ∧ X1 = X ∧ M1 = M ∧ K1 = K)) ((ps_K z z5 z8 v X K p1.toNatClampNeg).2.1 4 - K.2.1 4 + 1) ((ps_K z z5 z8 v X K p1.toNatClampNeg).2.1 6 - K.2.1 6 + 6) A := by
  refine vet_ofW [(0, .ref (ad 0)), (1, .int p1)] (by decide +kernel) (Nat.le_of_ble_eq_true rfl) rfl ?_
  intro G C hl hR hL hD hcy hA had hsa hr ht hQ
  subst hD hcy hA had hsa hl
  have hrc : (gR G).cells = (ps_K z z5 z8 v X K p1.toNatClampNeg).2.1 4 - K.2.1 4 + 1 := by rw [hR]
  have hrs : (gR G).slots = (ps_K z z5 z8 v X K p1.toNatClampNeg).2.1 6 - K.2.1 6 + 6 := by rw [hR]
  obtain ⟨hv0, hz8, hz5, hz6, h113, hk25, ho⟩ := id hs
  refine g_iload_n C dX10_pass_0 1 rfl ?_
  refine g_iconst C dX10_pass_1 (v := 1) (by decide) ?_
  refine g_sipush C dX10_pass_2 (v := 600) (by decide) ?_
  refine g_callSiW C dX10_pass_5 (c_X10_isWithin _ _ _ _ _ _ _ _ _ _ _ _) tw503 tw504 tw1 tw505 rfl ⟨by decide +kernel, by decide +kernel, rfl⟩ ⟨rfl, rfl⟩ (by rw [hR]; exact ⟨Nat.le_of_ble_eq_true rfl, Nat.le_of_ble_eq_true rfl⟩) (Nat.le_of_ble_eq_true rfl) (by omega) (fun r_1 X1 M1 K1 h_2 => ?_)
  obtain ⟨er_1, hX1, hM1, hK1⟩ := h_2
  subst X1 M1 K1
  try simp only [sa_ap, si_ap, reduceIte, Nat.reduceEqDiff] at er_1
  refine g_if_ne C dX10_pass_8 (tgt := 22) (by decide) (fun c_8 => ?_) (fun c_8 => ?_)
  · try simp only [sa_ap, si_ap, reduceIte, Nat.reduceEqDiff, up_us, lg_cmp_lt, lg_cmp_gt, lg_cmp_le, lg_cmp_ge] at c_8
    obtain ⟨nn, hn1, hn6, rfl⟩ := inr_ix (p := p1) (by rw [← er_1]; exact c_8)
    have c_cl : (nI nn).toNatClampNeg = nn := nI_clamp (by omega)
    rw [c_cl] at hrc hrs hcap hQ
    refine g_aload_n C dX10_pass_22 0 rfl ?_
    refine gf_X10_now C tw335 dX10_pass_23 ?_
    refine g_iload_n C dX10_pass_26 1 rfl ?_
    refine g_iadd C dX10_pass_27 ?_
    refine g_ldc C dX10_pass_28 tw502 ?_
    refine g_icmp_le C dX10_pass_30 (tgt := 44) (by decide) (fun c_30 => ?_) (fun c_30 => ?_)
    · try simp only [sa_ap, si_ap, reduceIte, Nat.reduceEqDiff, up_us, lg_cmp_lt, lg_cmp_gt, lg_cmp_le, lg_cmp_ge] at c_30
      refine g_iconst C dX10_pass_44 (v := 0) (by decide) ?_
      refine g_istore_n C dX10_pass_45 (L' := [(2, .int 0), (0, .ref (gad G 0)), (1, .int (nI nn))]) rfl (by rw [hL]; decide) ?_
      have lp46 : ∀ (n i : Nat) (hi : i + n = nn), GH G (WX G (ps_X z z5 z8 v X i) M (ps_K z z5 z8 v X K i)) [(0, .ref (gad G 0)), (1, .int (nI nn)), (2, .int (nI i))] (((ps_K z z5 z8 v X K i)).2.1 4 - K.2.1 4) (((ps_K z z5 z8 v X K i)).2.1 6 - K.2.1 6) 46 [] := by
        intro n
        induction n with
        | zero =>
          intro i hi
          obtain rfl : nn = i := by omega
          have hp0 := ps_le z z5 z8 v X K 0 nn
          rw [Nat.zero_add] at hp0
          have hp00 : ps_K z z5 z8 v X K 0 = K := rfl
          rw [hp00] at hp0
          refine g_iload_n C dX10_pass_46 2 rfl ?_
          refine g_iload_n C dX10_pass_47 1 rfl ?_
          refine g_icmp_ge C dX10_pass_48 (tgt := 61) (by decide) (fun c_48 => ?_) (fun c_48 => absurd (nI_le (a := nn) (b := nn) (Nat.le_refl _) (by omega)) c_48)
          refine g_aload_n C dX10_pass_61 0 rfl ?_
          refine gf_X10_now C tw335 dX10_pass_62 ?_
          refine g_topi ((hs.ps nn).1) ?_
          refine g_iretWX C hr hQ (by omega) (by omega) dX10_pass_65 ?_
          exact ⟨(by first | with_reducible rfl | (subst er_1; first | with_reducible rfl | (simp only [sa_ap, si_ap, si_sa, sa_sa, sa_3, sa_4, sa_5, sa_6, sa_7, sa_8, xk_pass, xn, up_us, up_up, c_8, c_cl, c_30]; done) | (simp [sa_ap, si_ap, si_sa, sa_sa, sa_3, sa_4, sa_5, sa_6, sa_7, sa_8, xk_pass, xn, up_us, up_up, c_8, c_cl, c_30]; done))), (by first | with_reducible rfl | (subst er_1; first | with_reducible rfl | (simp only [sa_ap, si_ap, si_sa, sa_sa, sa_3, sa_4, sa_5, sa_6, sa_7, sa_8, xk_pass, xn, up_us, up_up, c_8, c_cl, c_30]; done) | (simp [sa_ap, si_ap, si_sa, sa_sa, sa_3, sa_4, sa_5, sa_6, sa_7, sa_8, xk_pass, xn, up_us, up_up, c_8, c_cl, c_30]; done))), (by first | with_reducible rfl | (subst er_1; first | with_reducible rfl | (simp only [sa_ap, si_ap, si_sa, sa_sa, sa_3, sa_4, sa_5, sa_6, sa_7, sa_8, xk_pass, xn, up_us, up_up, c_8, c_cl, c_30]; done) | (simp [sa_ap, si_ap, si_sa, sa_sa, sa_3, sa_4, sa_5, sa_6, sa_7, sa_8, xk_pass, xn, up_us, up_up, c_8, c_cl, c_30]; done))), rfl, (by first | with_reducible rfl | (subst er_1; first | with_reducible rfl | (simp only [sa_ap, si_ap, si_sa, sa_sa, sa_3, sa_4, sa_5, sa_6, sa_7, sa_8, xk_pass, xn, up_us, up_up, c_8, c_cl, c_30]; done) | (simp [sa_ap, si_ap, si_sa, sa_sa, sa_3, sa_4, sa_5, sa_6, sa_7, sa_8, xk_pass, xn, up_us, up_up, c_8, c_cl, c_30]; done)))⟩
        | succ n ih =>
          intro i hi
          have hp0 := ps_le z z5 z8 v X K 0 i
          rw [Nat.zero_add] at hp0
          have hp00 : ps_K z z5 z8 v X K 0 = K := rfl
          rw [hp00] at hp0
          have hp1 := ps_le z z5 z8 v X K (i + 1) n
          rw [show i + 1 + n = nn by omega] at hp1
          have hpq := kq (show ps_K z z5 z8 v X K (i + 1) = kLs (ps_K z z5 z8 v X K i) 0 (v + i) (sc_A (v + i) z z5 z8 (ps_X z z5 z8 v X i)).2 from rfl)
          have hpl := kLs_le0 (v + i) (sc_A (v + i) z z5 z8 (ps_X z z5 z8 v X i)).2 (ps_K z z5 z8 v X K i)
          refine g_iload_n C dX10_pass_46 2 rfl ?_
          refine g_iload_n C dX10_pass_47 1 rfl ?_
          refine g_icmp_ge C dX10_pass_48 (tgt := 61) (by decide) (fun c_48 => absurd c_48 (nI_ge (a := i) (b := nn) (by omega) (by omega))) (fun c_48 => ?_)
          refine g_aload_n C dX10_pass_51 0 rfl ?_
          refine g_callVvW C dX10_pass_52 (c_X10_goThroughSecond _ _ _ _ _ _ _ _ _ (v + i) z z5 z8 (hs.ps i) hzl h5 h8 (by omega) (by omega) (by omega)) tw906 tw908 tp7 tw1 tw909 (rv_X10 C) rfl ⟨by decide +kernel, by decide +kernel, rfl⟩ ⟨rfl, rfl⟩ (by rw [hR]; exact ⟨Nat.le_of_ble_eq_true rfl, Nat.le_of_ble_eq_true rfl⟩) (Nat.le_of_ble_eq_true rfl) (by omega) (fun X1 M1 K1 h_3 => ?_)
          obtain ⟨hX1, hM1, hK1⟩ := h_3
          subst X1 M1 K1
          refine g_iinc C dX10_pass_55 2 rfl (v := nI (i + 1)) (nI_1 _) (L' := [(2, .int (nI (i + 1))), (0, .ref (gad G 0)), (1, .int (nI nn))]) rfl (by rw [hL]; decide) ?_
          refine g_goto C dX10_pass_58 (tgt := 46) (by decide) ?_
          exact g_sub [1, 2, 0] rfl (g_to rfl rfl (by omega) (by omega) (ih (i + 1) (by omega)))
      exact g_sub [1, 2, 0] rfl (g_to rfl rfl (by show _ = K.2.1 4 - K.2.1 4; omega) (by show _ = K.2.1 6 - K.2.1 6; omega) (lp46 (nn) 0 (by omega)))
    · try simp only [sa_ap, si_ap, reduceIte, Nat.reduceEqDiff, up_us, lg_cmp_lt, lg_cmp_gt, lg_cmp_le, lg_cmp_ge] at c_30
      refine g_throwW C hst ht hQ th_138 th_ot_138 tw563 tw23 (i := 24) ⟨by decide, rfl⟩ dX10_pass_33 dX10_pass_36 dX10_pass_37 dX10_pass_40 dX10_pass_43 (by rw [hR]; exact ⟨Nat.le_of_ble_eq_true rfl, Nat.le_of_ble_eq_true rfl⟩) (by omega) (by omega) ?_
      exact ⟨(by first | with_reducible rfl | (subst er_1; first | with_reducible rfl | (simp only [sa_ap, si_ap, si_sa, sa_sa, sa_3, sa_4, sa_5, sa_6, sa_7, sa_8, xk_pass, xn, up_us, up_up, c_8, c_cl, c_30]; done) | (simp [sa_ap, si_ap, si_sa, sa_sa, sa_3, sa_4, sa_5, sa_6, sa_7, sa_8, xk_pass, xn, up_us, up_up, c_8, c_cl, c_30]; done))), (by first | with_reducible rfl | (subst er_1; first | with_reducible rfl | (simp only [sa_ap, si_ap, si_sa, sa_sa, sa_3, sa_4, sa_5, sa_6, sa_7, sa_8, xk_pass, xn, up_us, up_up, c_8, c_cl, c_30]; done) | (simp [sa_ap, si_ap, si_sa, sa_sa, sa_3, sa_4, sa_5, sa_6, sa_7, sa_8, xk_pass, xn, up_us, up_up, c_8, c_cl, c_30]; done))), (by first | with_reducible rfl | (subst er_1; first | with_reducible rfl | (simp only [sa_ap, si_ap, si_sa, sa_sa, sa_3, sa_4, sa_5, sa_6, sa_7, sa_8, xk_pass, xn, up_us, up_up, c_8, c_cl, c_30]; done) | (simp [sa_ap, si_ap, si_sa, sa_sa, sa_3, sa_4, sa_5, sa_6, sa_7, sa_8, xk_pass, xn, up_us, up_up, c_8, c_cl, c_30]; done))), rfl, rfl⟩
  · try simp only [sa_ap, si_ap, reduceIte, Nat.reduceEqDiff, up_us, lg_cmp_lt, lg_cmp_gt, lg_cmp_le, lg_cmp_ge] at c_8
    refine g_throwW C hst ht hQ th_103 th_ot_103 tw506 tw21 (i := 23) ⟨by decide, rfl⟩ dX10_pass_11 dX10_pass_14 dX10_pass_15 dX10_pass_18 dX10_pass_21 (by rw [hR]; exact ⟨Nat.le_of_ble_eq_true rfl, Nat.le_of_ble_eq_true rfl⟩) (by omega) (by omega) ?_
    exact ⟨(by first | with_reducible rfl | (subst er_1; first | with_reducible rfl | (simp only [sa_ap, si_ap, si_sa, sa_sa, sa_3, sa_4, sa_5, sa_6, sa_7, sa_8, xk_pass, xn, up_us, up_up, c_8]; done) | (simp [sa_ap, si_ap, si_sa, sa_sa, sa_3, sa_4, sa_5, sa_6, sa_7, sa_8, xk_pass, xn, up_us, up_up, c_8]; done))), (by first | with_reducible rfl | (subst er_1; first | with_reducible rfl | (simp only [sa_ap, si_ap, si_sa, sa_sa, sa_3, sa_4, sa_5, sa_6, sa_7, sa_8, xk_pass, xn, up_us, up_up, c_8]; done) | (simp [sa_ap, si_ap, si_sa, sa_sa, sa_3, sa_4, sa_5, sa_6, sa_7, sa_8, xk_pass, xn, up_us, up_up, c_8]; done))), (by first | with_reducible rfl | (subst er_1; first | with_reducible rfl | (simp only [sa_ap, si_ap, si_sa, sa_sa, sa_3, sa_4, sa_5, sa_6, sa_7, sa_8, xk_pass, xn, up_us, up_up, c_8]; done) | (simp [sa_ap, si_ap, si_sa, sa_sa, sa_3, sa_4, sa_5, sa_6, sa_7, sa_8, xk_pass, xn, up_us, up_up, c_8]; done))), rfl, rfl⟩

set_option maxHeartbeats 400000 in
set_option maxRecDepth 100000 in
/-- logLength.logLength -/
theorem c_X10_logLength (l : Launch) (D : va_G) (cy : Nat → ClassId) (A : Nat → Prop) (ad sad : Nat → Nat) (X M : XF) (K : KF) (hcap : K.2.1 0 < 2 ^ 26) (hlen : (K.2.2.1 0).length < 2 ^ 26) : Met l yX10_logLength (wsA yX10_logLength cX10_logLength 1 (some .int)) ({ frames := 2, cells := 0, slots := 0, locals := 40 }) (PcW D cy A ad sad X M K [.ref (ad 0)]) (QiW D cy A ad (fun r X1 M1 K1 => r = nI (K.2.2.1 0).length ∧ X1 = X ∧ M1 = M ∧ K1 = K)) 0 0 A := by
  refine met_ofW [(0, .ref (ad 0))] (by decide +kernel) (Nat.le_of_ble_eq_true rfl) rfl ?_
  intro G C hl hR hL hD hcy hA had hsa hr hQ
  subst hD hcy hA had hsa hl
  refine g_aload_n C dX10_logLength_0 0 rfl ?_
  refine gf_X10_log C tw332 dX10_logLength_1 ?_
  refine gf_X4_text C tw312 dX10_logLength_4 ?_
  refine g_callViW C dX10_logLength_7 (c_lenW0 _ _ _ _ _ _ _ _ _ hcap) tw1092 tw1093 tw1094 tw13 tw1095 (rv_J4_0 C) rfl ⟨by decide +kernel, by decide +kernel, rfl⟩ ⟨rfl, rfl⟩ (by rw [hR]; decide) (Nat.le_of_ble_eq_true rfl) (by rw [hR]; decide) (fun r_1 X1 M1 K1 h_2 => ?_)
  obtain ⟨er_1, hX1, hM1, hK1⟩ := h_2
  subst X1 M1 K1
  try simp only [sa_ap, si_ap, reduceIte, Nat.reduceEqDiff] at er_1
  refine g_iretW C hr hQ (Nat.le_refl _) (Nat.le_refl _) dX10_logLength_10 ?_
  exact ⟨(by first | with_reducible rfl | (subst er_1; first | with_reducible rfl | (simp only [sa_ap, si_ap, si_sa, sa_sa, sa_3, sa_4, sa_5, sa_6, sa_7, sa_8, up_us, up_up]; done) | (simp [sa_ap, si_ap, si_sa, sa_sa, sa_3, sa_4, sa_5, sa_6, sa_7, sa_8, up_us, up_up]; done))), (by first | with_reducible rfl | (subst er_1; first | with_reducible rfl | (simp only [sa_ap, si_ap, si_sa, sa_sa, sa_3, sa_4, sa_5, sa_6, sa_7, sa_8, up_us, up_up]; done) | (simp [sa_ap, si_ap, si_sa, sa_sa, sa_3, sa_4, sa_5, sa_6, sa_7, sa_8, up_us, up_up]; done))), rfl, rfl⟩

set_option maxHeartbeats 400000 in
set_option maxRecDepth 100000 in
/-- logAt.logAt -/
theorem c_X10_logAt (l : Launch) (D : va_G) (cy : Nat → ClassId) (A : Nat → Prop) (ad sad : Nat → Nat) (X M : XF) (K : KF) (p1 : Int32) (hcap : K.2.1 0 < 2 ^ 26) (hlen : (K.2.2.1 0).length < 2 ^ 26) (hch : ∀ j : Nat, (K.2.2.1 0).getD j 0 < 128) (hst : l.stackTraces = false) : vx_Met l yX10_logAt (wsA yX10_logAt cX10_logAt 2 (some .char)) ({ frames := 6, cells := 1, slots := 6, locals := 88 }) (PcW D cy A ad sad X M K [.ref (ad 0), .int p1]) (QiW D cy A ad (fun r X1 M1 K1 => xk_b p1 (nI (K.2.2.1 0).length) = 0 ∧ r = nI ((K.2.2.1 0).getD p1.toNatClampNeg 0) ∧ X1 = X ∧ M1 = M ∧ K1 = K)) (XcW D cy A ad (fun E X1 M1 K1 => ¬ xk_b p1 (nI (K.2.2.1 0).length) = 0 ∧ E = xn "java/lang/IndexOutOfBoundsException" "java/lang/IndexOutOfBoundsException" "java/lang/IndexOutOfBoundsException" (xk_b p1 (nI (K.2.2.1 0).length)) ∧ X1 = X ∧ M1 = M ∧ K1 = K)) 1 6 A := by
  refine vet_ofW [(0, .ref (ad 0)), (1, .int p1)] (by decide +kernel) (Nat.le_of_ble_eq_true rfl) rfl ?_
  intro G C hl hR hL hD hcy hA had hsa hr ht hQ
  subst hD hcy hA had hsa hl
  refine g_iload_n C dX10_logAt_0 1 rfl ?_
  refine g_aload_n C dX10_logAt_1 0 rfl ?_
  refine gf_X10_log C tw332 dX10_logAt_2 ?_
  refine gf_X4_text C tw312 dX10_logAt_5 ?_
  refine g_callViW C dX10_logAt_8 (c_lenW0 _ _ _ _ _ _ _ _ _ hcap) tw1092 tw1093 tw1094 tw13 tw1095 (rv_J4_0 C) rfl ⟨by decide +kernel, by decide +kernel, rfl⟩ ⟨rfl, rfl⟩ (by rw [hR]; decide) (Nat.le_of_ble_eq_true rfl) (by rw [hR]; decide) (fun r_1 X1 M1 K1 h_2 => ?_)
  obtain ⟨rfl, hX1, hM1, hK1⟩ := h_2
  subst X1 M1 K1
  refine g_callSiW C dX10_logAt_11 (c_X10_isBelow _ _ _ _ _ _ _ _ _ _ _) tw499 tw500 tw1 tw501 rfl ⟨by decide +kernel, by decide +kernel, rfl⟩ ⟨rfl, rfl⟩ (by rw [hR]; decide) (Nat.le_of_ble_eq_true rfl) (by rw [hR]; decide) (fun r_3 X1 M1 K1 h_4 => ?_)
  obtain ⟨er_3, hX1, hM1, hK1⟩ := h_4
  subst X1 M1 K1
  try simp only [sa_ap, si_ap, reduceIte, Nat.reduceEqDiff] at er_3
  refine g_if_ne C dX10_logAt_14 (tgt := 28) (by decide) (fun c_14 => ?_) (fun c_14 => ?_)
  · try simp only [sa_ap, si_ap, reduceIte, Nat.reduceEqDiff, up_us, lg_cmp_lt, lg_cmp_gt, lg_cmp_le, lg_cmp_ge] at c_14
    obtain ⟨j, hj, rfl⟩ := bel_ix (p := p1) (s := nI (K.2.2.1 0).length) (n := (K.2.2.1 0).length) rfl (by omega) (by rw [← er_3]; exact c_14)
    have c_clj : (nI j).toNatClampNeg = j := nI_clamp (by omega)
    refine g_aload_n C dX10_logAt_28 0 rfl ?_
    refine gf_X10_log C tw332 dX10_logAt_29 ?_
    refine gf_X4_text C tw312 dX10_logAt_32 ?_
    refine g_iload_n C dX10_logAt_35 1 rfl ?_
    refine g_callViW C dX10_logAt_36 (c_chW0 _ _ _ _ _ _ _ _ _ j hj hcap) tw1100 tw1101 tw1102 tw13 tw1103 (rv_J4_0 C) rfl ⟨by decide +kernel, by decide +kernel, rfl⟩ ⟨rfl, rfl⟩ (by rw [hR]; decide) (Nat.le_of_ble_eq_true rfl) (by rw [hR]; decide) (fun r_5 X1 M1 K1 h_6 => ?_)
    obtain ⟨rfl, hX1, hM1, hK1⟩ := h_6
    subst X1 M1 K1
    refine g_zretWX C hr (ch_nar (hch _)) hQ (by decide) (by decide) dX10_logAt_39 ?_
    exact ⟨(by first | with_reducible rfl | (subst er_3; first | with_reducible rfl | (simp only [sa_ap, si_ap, si_sa, sa_sa, sa_3, sa_4, sa_5, sa_6, sa_7, sa_8, xk_b, xn, up_us, up_up, c_14, c_clj]; done) | (simp [sa_ap, si_ap, si_sa, sa_sa, sa_3, sa_4, sa_5, sa_6, sa_7, sa_8, xk_b, xn, up_us, up_up, c_14, c_clj]; done))), (by first | with_reducible rfl | (subst er_3; first | with_reducible rfl | (simp only [sa_ap, si_ap, si_sa, sa_sa, sa_3, sa_4, sa_5, sa_6, sa_7, sa_8, xk_b, xn, up_us, up_up, c_14, c_clj]; done) | (simp [sa_ap, si_ap, si_sa, sa_sa, sa_3, sa_4, sa_5, sa_6, sa_7, sa_8, xk_b, xn, up_us, up_up, c_14, c_clj]; done))), (by first | with_reducible rfl | (subst er_3; first | with_reducible rfl | (simp only [sa_ap, si_ap, si_sa, sa_sa, sa_3, sa_4, sa_5, sa_6, sa_7, sa_8, xk_b, xn, up_us, up_up, c_14, c_clj]; done) | (simp [sa_ap, si_ap, si_sa, sa_sa, sa_3, sa_4, sa_5, sa_6, sa_7, sa_8, xk_b, xn, up_us, up_up, c_14, c_clj]; done))), rfl, rfl⟩
  · try simp only [sa_ap, si_ap, reduceIte, Nat.reduceEqDiff, up_us, lg_cmp_lt, lg_cmp_gt, lg_cmp_le, lg_cmp_ge] at c_14
    refine g_throwW C hst ht hQ th_146 th_ot_146 tw587 tw19 (i := 28) ⟨by decide, rfl⟩ dX10_logAt_17 dX10_logAt_20 dX10_logAt_21 dX10_logAt_24 dX10_logAt_27 (by rw [hR]; decide) (by rw [hR]; decide) (by decide) ?_
    exact ⟨(by first | with_reducible rfl | (subst er_3; first | with_reducible rfl | (simp only [sa_ap, si_ap, si_sa, sa_sa, sa_3, sa_4, sa_5, sa_6, sa_7, sa_8, xk_b, xn, up_us, up_up, c_14]; done) | (simp [sa_ap, si_ap, si_sa, sa_sa, sa_3, sa_4, sa_5, sa_6, sa_7, sa_8, xk_b, xn, up_us, up_up, c_14]; done))), (by first | with_reducible rfl | (subst er_3; first | with_reducible rfl | (simp only [sa_ap, si_ap, si_sa, sa_sa, sa_3, sa_4, sa_5, sa_6, sa_7, sa_8, xk_b, xn, up_us, up_up, c_14]; done) | (simp [sa_ap, si_ap, si_sa, sa_sa, sa_3, sa_4, sa_5, sa_6, sa_7, sa_8, xk_b, xn, up_us, up_up, c_14]; done))), (by first | with_reducible rfl | (subst er_3; first | with_reducible rfl | (simp only [sa_ap, si_ap, si_sa, sa_sa, sa_3, sa_4, sa_5, sa_6, sa_7, sa_8, xk_b, xn, up_us, up_up, c_14]; done) | (simp [sa_ap, si_ap, si_sa, sa_sa, sa_3, sa_4, sa_5, sa_6, sa_7, sa_8, xk_b, xn, up_us, up_up, c_14]; done))), rfl, rfl⟩

set_option maxHeartbeats 400000 in
set_option maxRecDepth 100000 in
/-- logged.logged -/
theorem c_X10_logged (l : Launch) (D : va_G) (cy : Nat → ClassId) (A : Nat → Prop) (ad sad : Nat → Nat) (X M : XF) (K : KF) (p1 : Int32) (hcap : K.2.1 0 < 2 ^ 26) (hlen : (K.2.2.1 0).length < 2 ^ 26) : Met l yX10_logged (wsA yX10_logged cX10_logged 2 (some .int)) ({ frames := 5, cells := 0, slots := 0, locals := 111 }) (PcW D cy A ad sad X M K [.ref (ad 0), .int p1]) (QiW D cy A ad (fun r X1 M1 K1 => r = tm_of (K.2.2.1 0) p1 (K.2.2.1 0).length ∧ X1 = X ∧ M1 = M ∧ K1 = K)) 0 0 A := by
  refine met_ofW [(0, .ref (ad 0)), (1, .int p1)] (by decide +kernel) (Nat.le_of_ble_eq_true rfl) rfl ?_
  intro G C hl hR hL hD hcy hA had hsa hr hQ
  subst hD hcy hA had hsa hl
  refine g_aload_n C dX10_logged_0 0 rfl ?_
  refine gf_X10_log C tw332 dX10_logged_1 ?_
  refine g_iload_n C dX10_logged_4 1 rfl ?_
  refine g_callViW C dX10_logged_5 (c_X4_timesOf _ _ _ _ _ _ _ _ _ _ hcap hlen) tw1341 tw1342 tw1343 tw11 tw1344 (rv_X4 C) rfl ⟨by decide +kernel, by decide +kernel, rfl⟩ ⟨rfl, rfl⟩ (by rw [hR]; decide) (Nat.le_of_ble_eq_true rfl) (by rw [hR]; decide) (fun r_1 X1 M1 K1 h_2 => ?_)
  obtain ⟨er_1, hX1, hM1, hK1⟩ := h_2
  subst X1 M1 K1
  try simp only [sa_ap, si_ap, reduceIte, Nat.reduceEqDiff] at er_1
  refine g_iretW C hr hQ (Nat.le_refl _) (Nat.le_refl _) dX10_logged_8 ?_
  exact ⟨(by first | with_reducible rfl | (subst er_1; first | with_reducible rfl | (simp only [sa_ap, si_ap, si_sa, sa_sa, sa_3, sa_4, sa_5, sa_6, sa_7, sa_8, up_us, up_up]; done) | (simp [sa_ap, si_ap, si_sa, sa_sa, sa_3, sa_4, sa_5, sa_6, sa_7, sa_8, up_us, up_up]; done))), (by first | with_reducible rfl | (subst er_1; first | with_reducible rfl | (simp only [sa_ap, si_ap, si_sa, sa_sa, sa_3, sa_4, sa_5, sa_6, sa_7, sa_8, up_us, up_up]; done) | (simp [sa_ap, si_ap, si_sa, sa_sa, sa_3, sa_4, sa_5, sa_6, sa_7, sa_8, up_us, up_up]; done))), rfl, rfl⟩


set_option maxHeartbeats 400000 in
set_option maxRecDepth 100000 in
/-- isSound.isSound -/
theorem c_X10_isSound (l : Launch) (D : va_G) (cy : Nat → ClassId) (A : Nat → Prop) (ad sad : Nat → Nat) (X M : XF) (K : KF) (hle : ∀ i : Nat, i < 3 → X 5 i ≤ X 2 i) (hcap : K.2.1 0 < 2 ^ 26) (hlen : (K.2.2.1 0).length < 2 ^ 26) : Met l yX10_isSound (wsA yX10_isSound cX10_isSound 2 (some .boolean)) ({ frames := 6, cells := 0, slots := 0, locals := 131 }) (PcW D cy A ad sad X M K [.ref (ad 0)]) (QiW D cy A ad (fun r X1 M1 K1 => r = snd_X X (K.2.2.1 0) ∧ X1 = X ∧ M1 = M ∧ K1 = K)) 0 0 A := by
  refine met_ofW [(0, .ref (ad 0))] (by decide +kernel) (Nat.le_of_ble_eq_true rfl) rfl ?_
  intro G C hl hR hL hD hcy hA had hsa hr hQ
  subst hD hcy hA had hsa hl
  refine g_aload_n C dX10_isSound_0 0 rfl ?_
  refine g_callViW C dX10_isSound_1 (c_X10_hasLeft _ _ _ _ _ _ _ _ _ ) tw559 tw561 tp5 tw1 tw562 (rv_X10 C) rfl ⟨by decide +kernel, by decide +kernel, rfl⟩ ⟨rfl, rfl⟩ (by rw [hR]; decide) (Nat.le_of_ble_eq_true rfl) (by rw [hR]; decide) (fun r_1 X1 M1 K1 h_2 => ?_)
  obtain ⟨er_1, hX1, hM1, hK1⟩ := h_2
  subst X1 M1 K1
  try simp only [sa_ap, si_ap, reduceIte, Nat.reduceEqDiff] at er_1
  refine g_if_eq C dX10_isSound_4 (tgt := 34) (by decide) (fun c_4 => ?_) (fun c_4 => ?_)
  · try simp only [sa_ap, si_ap, reduceIte, Nat.reduceEqDiff, up_us, lg_cmp_lt, lg_cmp_gt, lg_cmp_le, lg_cmp_ge] at c_4
    refine g_iconst C dX10_isSound_34 (v := 1) (by decide) ?_
    refine g_goto C dX10_isSound_35 (tgt := 39) (by decide) ?_
    refine g_istore_n C dX10_isSound_39 (L' := [(1, .int 1), (0, .ref (gad G 0))]) rfl (by rw [hL]; decide) ?_
    refine g_iload_n C dX10_isSound_40 0 rfl ?_
    refine g_if_eq C dX10_isSound_41 (tgt := 68) (by decide) (fun c_41 => absurd c_41 (by decide)) (fun c_41 => ?_)
    refine g_aload_n C dX10_isSound_44 1 rfl ?_
    refine gf_X10_tanks C tw323 dX10_isSound_45 ?_
    refine g_callViW C dX10_isSound_48 (c_X9_areWithinRoom _ _ _ _ _ _ _ _ _ hle) tw1351 tw1352 tw1353 tw2 tw1354 (rv_X9 C) rfl ⟨by decide +kernel, by decide +kernel, rfl⟩ ⟨rfl, rfl⟩ (by rw [hR]; decide) (Nat.le_of_ble_eq_true rfl) (by rw [hR]; decide) (fun r_3 X1 M1 K1 h_4 => ?_)
    obtain ⟨rfl, hX1, hM1, hK1⟩ := h_4
    subst X1 M1 K1
    refine g_if_eq C dX10_isSound_51 (tgt := 68) (by decide) (fun c_51 => absurd c_51 (by decide)) (fun c_51 => ?_)
    refine g_aload_n C dX10_isSound_54 1 rfl ?_
    refine gf_X10_log C tw332 dX10_isSound_55 ?_
    refine g_callViW C dX10_isSound_58 (c_X4_tellsAll _ _ _ _ _ _ _ _ _ hcap hlen) tw1355 tw1356 tw1357 tw11 tw1358 (rv_X4 C) rfl ⟨by decide +kernel, by decide +kernel, rfl⟩ ⟨rfl, rfl⟩ (by rw [hR]; decide) (Nat.le_of_ble_eq_true rfl) (by rw [hR]; decide) (fun r_5 X1 M1 K1 h_6 => ?_)
    obtain ⟨er_5, hX1, hM1, hK1⟩ := h_6
    subst X1 M1 K1
    try simp only [sa_ap, si_ap, reduceIte, Nat.reduceEqDiff] at er_5
    refine g_if_eq C dX10_isSound_61 (tgt := 68) (by decide) (fun c_61 => ?_) (fun c_61 => ?_)
    · try simp only [sa_ap, si_ap, reduceIte, Nat.reduceEqDiff, up_us, lg_cmp_lt, lg_cmp_gt, lg_cmp_le, lg_cmp_ge] at c_61
      refine g_iconst C dX10_isSound_68 (v := 0) (by decide) ?_
      refine g_zretW C hr (by decide) hQ (Nat.le_refl _) (Nat.le_refl _) dX10_isSound_69 ?_
      exact ⟨(by first | with_reducible rfl | (subst er_1 er_5; first | with_reducible rfl | (simp only [sa_ap, si_ap, si_sa, sa_sa, sa_3, sa_4, sa_5, sa_6, sa_7, sa_8, snd_X, up_us, up_up, c_4, c_61]; done) | (simp [sa_ap, si_ap, si_sa, sa_sa, sa_3, sa_4, sa_5, sa_6, sa_7, sa_8, snd_X, up_us, up_up, c_4, c_61]; done))), (by first | with_reducible rfl | (subst er_1 er_5; first | with_reducible rfl | (simp only [sa_ap, si_ap, si_sa, sa_sa, sa_3, sa_4, sa_5, sa_6, sa_7, sa_8, snd_X, up_us, up_up, c_4, c_61]; done) | (simp [sa_ap, si_ap, si_sa, sa_sa, sa_3, sa_4, sa_5, sa_6, sa_7, sa_8, snd_X, up_us, up_up, c_4, c_61]; done))), rfl, rfl⟩
    · try simp only [sa_ap, si_ap, reduceIte, Nat.reduceEqDiff, up_us, lg_cmp_lt, lg_cmp_gt, lg_cmp_le, lg_cmp_ge] at c_61
      refine g_iconst C dX10_isSound_64 (v := 1) (by decide) ?_
      refine g_goto C dX10_isSound_65 (tgt := 69) (by decide) ?_
      refine g_zretW C hr (by decide) hQ (Nat.le_refl _) (Nat.le_refl _) dX10_isSound_69 ?_
      exact ⟨(by first | with_reducible rfl | (subst er_1 er_5; first | with_reducible rfl | (simp only [sa_ap, si_ap, si_sa, sa_sa, sa_3, sa_4, sa_5, sa_6, sa_7, sa_8, snd_X, up_us, up_up, c_4, c_61]; done) | (simp [sa_ap, si_ap, si_sa, sa_sa, sa_3, sa_4, sa_5, sa_6, sa_7, sa_8, snd_X, up_us, up_up, c_4, c_61]; done))), (by first | with_reducible rfl | (subst er_1 er_5; first | with_reducible rfl | (simp only [sa_ap, si_ap, si_sa, sa_sa, sa_3, sa_4, sa_5, sa_6, sa_7, sa_8, snd_X, up_us, up_up, c_4, c_61]; done) | (simp [sa_ap, si_ap, si_sa, sa_sa, sa_3, sa_4, sa_5, sa_6, sa_7, sa_8, snd_X, up_us, up_up, c_4, c_61]; done))), rfl, rfl⟩
  · try simp only [sa_ap, si_ap, reduceIte, Nat.reduceEqDiff, up_us, lg_cmp_lt, lg_cmp_gt, lg_cmp_le, lg_cmp_ge] at c_4
    refine g_aload_n C dX10_isSound_7 0 rfl ?_
    refine gf_X10_flight C tw331 dX10_isSound_8 ?_
    refine gf_X2_hadGoodRules C tw263 dX10_isSound_11 ?_
    refine g_if_eq C dX10_isSound_14 (tgt := 38) (by decide) (fun c_14 => ?_) (fun c_14 => ?_)
    · try simp only [sa_ap, si_ap, reduceIte, Nat.reduceEqDiff, up_us, lg_cmp_lt, lg_cmp_gt, lg_cmp_le, lg_cmp_ge] at c_14
      refine g_iconst C dX10_isSound_38 (v := 0) (by decide) ?_
      refine g_istore_n C dX10_isSound_39 (L' := [(1, .int 0), (0, .ref (gad G 0))]) rfl (by rw [hL]; decide) ?_
      refine g_iload_n C dX10_isSound_40 0 rfl ?_
      refine g_if_eq C dX10_isSound_41 (tgt := 68) (by decide) (fun c_41 => ?_) (fun c_41 => absurd (by decide) c_41)
      refine g_iconst C dX10_isSound_68 (v := 0) (by decide) ?_
      refine g_zretW C hr (by decide) hQ (Nat.le_refl _) (Nat.le_refl _) dX10_isSound_69 ?_
      exact ⟨(by first | with_reducible rfl | (subst er_1; first | with_reducible rfl | (simp only [sa_ap, si_ap, si_sa, sa_sa, sa_3, sa_4, sa_5, sa_6, sa_7, sa_8, snd_X, up_us, up_up, c_4, c_14]; done) | (simp [sa_ap, si_ap, si_sa, sa_sa, sa_3, sa_4, sa_5, sa_6, sa_7, sa_8, snd_X, up_us, up_up, c_4, c_14]; done))), (by first | with_reducible rfl | (subst er_1; first | with_reducible rfl | (simp only [sa_ap, si_ap, si_sa, sa_sa, sa_3, sa_4, sa_5, sa_6, sa_7, sa_8, snd_X, up_us, up_up, c_4, c_14]; done) | (simp [sa_ap, si_ap, si_sa, sa_sa, sa_3, sa_4, sa_5, sa_6, sa_7, sa_8, snd_X, up_us, up_up, c_4, c_14]; done))), rfl, rfl⟩
    · try simp only [sa_ap, si_ap, reduceIte, Nat.reduceEqDiff, up_us, lg_cmp_lt, lg_cmp_gt, lg_cmp_le, lg_cmp_ge] at c_14
      refine g_aload_n C dX10_isSound_17 0 rfl ?_
      refine gf_X10_countdown C tw330 dX10_isSound_18 ?_
      refine g_aload_n C dX10_isSound_21 0 rfl ?_
      refine gf_X10_flight C tw331 dX10_isSound_22 ?_
      refine gf_X2_leftAt C tw259 dX10_isSound_25 ?_
      refine g_callViW C dX10_isSound_28 (c_X1_isInWindow _ _ _ _ _ _ _ _ _ _) tw981 tw982 tw983 tw9 tw984 (rv_X1 C) rfl ⟨by decide +kernel, by decide +kernel, rfl⟩ ⟨rfl, rfl⟩ (by rw [hR]; decide) (Nat.le_of_ble_eq_true rfl) (by rw [hR]; decide) (fun r_7 X1 M1 K1 h_8 => ?_)
      obtain ⟨er_7, hX1, hM1, hK1⟩ := h_8
      subst X1 M1 K1
      try simp only [sa_ap, si_ap, reduceIte, Nat.reduceEqDiff] at er_7
      refine g_if_eq C dX10_isSound_31 (tgt := 38) (by decide) (fun c_31 => ?_) (fun c_31 => ?_)
      · try simp only [sa_ap, si_ap, reduceIte, Nat.reduceEqDiff, up_us, lg_cmp_lt, lg_cmp_gt, lg_cmp_le, lg_cmp_ge] at c_31
        refine g_iconst C dX10_isSound_38 (v := 0) (by decide) ?_
        refine g_istore_n C dX10_isSound_39 (L' := [(1, .int 0), (0, .ref (gad G 0))]) rfl (by rw [hL]; decide) ?_
        refine g_iload_n C dX10_isSound_40 0 rfl ?_
        refine g_if_eq C dX10_isSound_41 (tgt := 68) (by decide) (fun c_41 => ?_) (fun c_41 => absurd (by decide) c_41)
        refine g_iconst C dX10_isSound_68 (v := 0) (by decide) ?_
        refine g_zretW C hr (by decide) hQ (Nat.le_refl _) (Nat.le_refl _) dX10_isSound_69 ?_
        exact ⟨(by first | with_reducible rfl | (subst er_1 er_7; first | with_reducible rfl | (simp only [sa_ap, si_ap, si_sa, sa_sa, sa_3, sa_4, sa_5, sa_6, sa_7, sa_8, snd_X, up_us, up_up, c_4, c_14, c_31]; done) | (simp [sa_ap, si_ap, si_sa, sa_sa, sa_3, sa_4, sa_5, sa_6, sa_7, sa_8, snd_X, up_us, up_up, c_4, c_14, c_31]; done))), (by first | with_reducible rfl | (subst er_1 er_7; first | with_reducible rfl | (simp only [sa_ap, si_ap, si_sa, sa_sa, sa_3, sa_4, sa_5, sa_6, sa_7, sa_8, snd_X, up_us, up_up, c_4, c_14, c_31]; done) | (simp [sa_ap, si_ap, si_sa, sa_sa, sa_3, sa_4, sa_5, sa_6, sa_7, sa_8, snd_X, up_us, up_up, c_4, c_14, c_31]; done))), rfl, rfl⟩
      · try simp only [sa_ap, si_ap, reduceIte, Nat.reduceEqDiff, up_us, lg_cmp_lt, lg_cmp_gt, lg_cmp_le, lg_cmp_ge] at c_31
        refine g_iconst C dX10_isSound_34 (v := 1) (by decide) ?_
        refine g_goto C dX10_isSound_35 (tgt := 39) (by decide) ?_
        refine g_istore_n C dX10_isSound_39 (L' := [(1, .int 1), (0, .ref (gad G 0))]) rfl (by rw [hL]; decide) ?_
        refine g_iload_n C dX10_isSound_40 0 rfl ?_
        refine g_if_eq C dX10_isSound_41 (tgt := 68) (by decide) (fun c_41 => absurd c_41 (by decide)) (fun c_41 => ?_)
        refine g_aload_n C dX10_isSound_44 1 rfl ?_
        refine gf_X10_tanks C tw323 dX10_isSound_45 ?_
        refine g_callViW C dX10_isSound_48 (c_X9_areWithinRoom _ _ _ _ _ _ _ _ _ hle) tw1351 tw1352 tw1353 tw2 tw1354 (rv_X9 C) rfl ⟨by decide +kernel, by decide +kernel, rfl⟩ ⟨rfl, rfl⟩ (by rw [hR]; decide) (Nat.le_of_ble_eq_true rfl) (by rw [hR]; decide) (fun r_9 X1 M1 K1 h_10 => ?_)
        obtain ⟨rfl, hX1, hM1, hK1⟩ := h_10
        subst X1 M1 K1
        refine g_if_eq C dX10_isSound_51 (tgt := 68) (by decide) (fun c_51 => absurd c_51 (by decide)) (fun c_51 => ?_)
        refine g_aload_n C dX10_isSound_54 1 rfl ?_
        refine gf_X10_log C tw332 dX10_isSound_55 ?_
        refine g_callViW C dX10_isSound_58 (c_X4_tellsAll _ _ _ _ _ _ _ _ _ hcap hlen) tw1355 tw1356 tw1357 tw11 tw1358 (rv_X4 C) rfl ⟨by decide +kernel, by decide +kernel, rfl⟩ ⟨rfl, rfl⟩ (by rw [hR]; decide) (Nat.le_of_ble_eq_true rfl) (by rw [hR]; decide) (fun r_11 X1 M1 K1 h_12 => ?_)
        obtain ⟨er_11, hX1, hM1, hK1⟩ := h_12
        subst X1 M1 K1
        try simp only [sa_ap, si_ap, reduceIte, Nat.reduceEqDiff] at er_11
        refine g_if_eq C dX10_isSound_61 (tgt := 68) (by decide) (fun c_61 => ?_) (fun c_61 => ?_)
        · try simp only [sa_ap, si_ap, reduceIte, Nat.reduceEqDiff, up_us, lg_cmp_lt, lg_cmp_gt, lg_cmp_le, lg_cmp_ge] at c_61
          refine g_iconst C dX10_isSound_68 (v := 0) (by decide) ?_
          refine g_zretW C hr (by decide) hQ (Nat.le_refl _) (Nat.le_refl _) dX10_isSound_69 ?_
          exact ⟨(by first | with_reducible rfl | (subst er_1 er_7 er_11; first | with_reducible rfl | (simp only [sa_ap, si_ap, si_sa, sa_sa, sa_3, sa_4, sa_5, sa_6, sa_7, sa_8, snd_X, up_us, up_up, c_4, c_14, c_31, c_61]; done) | (simp [sa_ap, si_ap, si_sa, sa_sa, sa_3, sa_4, sa_5, sa_6, sa_7, sa_8, snd_X, up_us, up_up, c_4, c_14, c_31, c_61]; done))), (by first | with_reducible rfl | (subst er_1 er_7 er_11; first | with_reducible rfl | (simp only [sa_ap, si_ap, si_sa, sa_sa, sa_3, sa_4, sa_5, sa_6, sa_7, sa_8, snd_X, up_us, up_up, c_4, c_14, c_31, c_61]; done) | (simp [sa_ap, si_ap, si_sa, sa_sa, sa_3, sa_4, sa_5, sa_6, sa_7, sa_8, snd_X, up_us, up_up, c_4, c_14, c_31, c_61]; done))), rfl, rfl⟩
        · try simp only [sa_ap, si_ap, reduceIte, Nat.reduceEqDiff, up_us, lg_cmp_lt, lg_cmp_gt, lg_cmp_le, lg_cmp_ge] at c_61
          refine g_iconst C dX10_isSound_64 (v := 1) (by decide) ?_
          refine g_goto C dX10_isSound_65 (tgt := 69) (by decide) ?_
          refine g_zretW C hr (by decide) hQ (Nat.le_refl _) (Nat.le_refl _) dX10_isSound_69 ?_
          exact ⟨(by first | with_reducible rfl | (subst er_1 er_7 er_11; first | with_reducible rfl | (simp only [sa_ap, si_ap, si_sa, sa_sa, sa_3, sa_4, sa_5, sa_6, sa_7, sa_8, snd_X, up_us, up_up, c_4, c_14, c_31, c_61]; done) | (simp [sa_ap, si_ap, si_sa, sa_sa, sa_3, sa_4, sa_5, sa_6, sa_7, sa_8, snd_X, up_us, up_up, c_4, c_14, c_31, c_61]; done))), (by first | with_reducible rfl | (subst er_1 er_7 er_11; first | with_reducible rfl | (simp only [sa_ap, si_ap, si_sa, sa_sa, sa_3, sa_4, sa_5, sa_6, sa_7, sa_8, snd_X, up_us, up_up, c_4, c_14, c_31, c_61]; done) | (simp [sa_ap, si_ap, si_sa, sa_sa, sa_3, sa_4, sa_5, sa_6, sa_7, sa_8, snd_X, up_us, up_up, c_4, c_14, c_31, c_61]; done))), rfl, rfl⟩

