def stOk (s : Int32) : Prop := s = 45 ∨ s = 99 ∨ s = 104 ∨ s = 115 ∨ s = 102 ∨ s = 120 ∨ s = 111
def ltOk (ls : List Nat) (X X' : XF) : Prop := X' 119 0 = X 119 0 + nI ls.length ∧ (ls = [] → X' 118 0 = X 118 0) ∧ ∀ a c, ls = a ++ [c] → X' 118 0 = st_of (nI c)
theorem lt_nil {X X' : XF} (h1 : X' 119 0 = X 119 0) (h2 : X' 118 0 = X 118 0) : ltOk [] X X' := ⟨by rw [h1]; exact (Int32.add_zero _).symm, fun _ => h2, fun a c h => by cases a <;> cases h⟩
theorem lt_one {X X' : XF} {c : Nat} (h1 : X' 119 0 = X 119 0 + 1) (h2 : X' 118 0 = st_of (nI c)) : ltOk [c] X X' := by
  refine ⟨h1, (fun h => by cases h), fun a d h => ?_⟩
  have := List.append_inj' (show [] ++ [c] = a ++ [d] from h) rfl
  cases this.2
  exact h2
theorem lt_add {X X' X'' : XF} {ls : List Nat} {c : Nat} (h : ltOk ls X X') (h1 : X'' 119 0 = X' 119 0 + 1) (h2 : X'' 118 0 = st_of (nI c)) : ltOk (ls ++ [c]) X X'' := ⟨by rw [h1, h.1, List.length_append, ← nI_add, Int32.add_assoc]; rfl, fun q => absurd q (by simp), fun a d q => by
  have := List.append_inj' q rfl
  cases this.2
  exact h2⟩
theorem ic_of {s : Int32} (h : ¬ md_ic s = 0) : s = 99 ∨ s = 104 := by
  unfold md_ic at h
  by_cases h1 : s = 99
  · exact Or.inl h1
  · by_cases h2 : s = 104
    · exact Or.inr h2
    · rw [if_neg h1, if_neg h2] at h
      exact absurd rfl h
theorem ltOk.of {ls : List Nat} {X Y X' : XF} (h : ltOk ls Y X') (h1 : Y 119 0 = X 119 0) (h2 : Y 118 0 = X 118 0) : ltOk ls X X' := ⟨by rw [h.1, h1], fun q => (h.2.1 q).trans h2, h.2.2⟩
theorem ltOk.to {ls : List Nat} {X Y Y' : XF} (h : ltOk ls X Y) (h1 : Y' 119 0 = Y 119 0) (h2 : Y' 118 0 = Y 118 0) : ltOk ls X Y' := ⟨by rw [h1]; exact h.1, fun q => h2.trans (h.2.1 q), fun a c q => h2.trans (h.2.2 a c q)⟩
/-! the texts on both sides -/
/-- a side's text: its letters, its row's length, what it cost -/
abbrev TS := List Nat × Nat × Nat × Nat
def sd (w : Nat) (K : KF) : TS := (K.2.2.1 w, K.2.1 w, K.2.1 (4 + w), K.2.1 (6 + w))
def apT (s : TS) (t : List Nat) : TS := (s.1 ++ t, ncap (s.1 ++ t).length s.2.1, s.2.2.1 + gcl (s.1 ++ t).length s.2.1, s.2.2.2 + gsl (s.1 ++ t).length s.2.1)
def lgT (s : TS) (v c : Nat) : TS := apT (apT (apT s (decL v)) [c]) [59]
def lsT (s : TS) (v : Nat) : List Nat → TS
  | [] => s
  | c :: cs => lsT (lgT s v c) v cs
theorem sd_app0 (K : KF) (t : List Nat) : sd 0 (kApp K 0 t) = apT (sd 0 K) t := by simp [sd, kApp, apT]
theorem sd_app1 (K : KF) (t : List Nat) : sd 1 (kApp K 1 t) = apT (sd 1 K) t := by simp [sd, kApp, apT]
theorem sd_app01 (K : KF) (t : List Nat) : sd 1 (kApp K 0 t) = sd 1 K := by simp [sd, kApp]
theorem sd_app10 (K : KF) (t : List Nat) : sd 0 (kApp K 1 t) = sd 0 K := by simp [sd, kApp]
theorem sd_lg0 (K : KF) (v c : Nat) : sd 0 (kLg K 0 v c) = lgT (sd 0 K) v c := by unfold kLg lgT; rw [sd_app0, sd_app0, sd_app0]
theorem sd_lg1 (K : KF) (v c : Nat) : sd 1 (kLg K 1 v c) = lgT (sd 1 K) v c := by unfold kLg lgT; rw [sd_app1, sd_app1, sd_app1]
theorem sd_lg01 (K : KF) (v c : Nat) : sd 1 (kLg K 0 v c) = sd 1 K := by unfold kLg; rw [sd_app01, sd_app01, sd_app01]
theorem sd_lg10 (K : KF) (v c : Nat) : sd 0 (kLg K 1 v c) = sd 0 K := by unfold kLg; rw [sd_app10, sd_app10, sd_app10]
theorem sd_ls0 (v : Nat) : ∀ (ls : List Nat) (K : KF), sd 0 (kLs K 0 v ls) = lsT (sd 0 K) v ls
  | [], _ => rfl
  | c :: cs, K => by
    show sd 0 (kLs (kLg K 0 v c) 0 v cs) = lsT (lgT (sd 0 K) v c) v cs
    rw [sd_ls0 v cs, sd_lg0]
theorem sd_ls1 (v : Nat) : ∀ (ls : List Nat) (K : KF), sd 1 (kLs K 1 v ls) = lsT (sd 1 K) v ls
  | [], _ => rfl
  | c :: cs, K => by
    show sd 1 (kLs (kLg K 1 v c) 1 v cs) = lsT (lgT (sd 1 K) v c) v cs
    rw [sd_ls1 v cs, sd_lg1]
theorem sd_ls01 (v : Nat) : ∀ (ls : List Nat) (K : KF), sd 1 (kLs K 0 v ls) = sd 1 K
  | [], _ => rfl
  | c :: cs, K => by
    show sd 1 (kLs (kLg K 0 v c) 0 v cs) = _
    rw [sd_ls01 v cs, sd_lg01]
theorem sd_ls10 (v : Nat) : ∀ (ls : List Nat) (K : KF), sd 0 (kLs K 1 v ls) = sd 0 K
  | [], _ => rfl
  | c :: cs, K => by
    show sd 0 (kLs (kLg K 1 v c) 1 v cs) = _
    rw [sd_ls10 v cs, sd_lg10]
/-- what else K holds -/
def rsK (K : KF) : (Nat → Int64) × Nat × Nat × va_W := (K.1, K.2.1 2, K.2.1 3, K.2.2.2)
theorem rs_app (K : KF) (w : Nat) (hw : w ≤ 1) (t : List Nat) : rsK (kApp K w t) = rsK K := by
  have h1 : (2 : Nat) ≠ w := by omega
  have h2 : (3 : Nat) ≠ w := by omega
  have h3 : (2 : Nat) ≠ 4 + w := by omega
  have h4 : (3 : Nat) ≠ 4 + w := by omega
  have h5 : (2 : Nat) ≠ 6 + w := by omega
  have h6 : (3 : Nat) ≠ 6 + w := by omega
  simp [rsK, kApp, h1, h2, h3, h4, h5, h6]
theorem rs_lg (K : KF) (w : Nat) (hw : w ≤ 1) (v c : Nat) : rsK (kLg K w v c) = rsK K := by unfold kLg; rw [rs_app _ _ hw, rs_app _ _ hw, rs_app _ _ hw]
theorem rs_ls (w : Nat) (hw : w ≤ 1) (v : Nat) : ∀ (ls : List Nat) (K : KF), rsK (kLs K w v ls) = rsK K
  | [], _ => rfl
  | c :: cs, K => by
    show rsK (kLs (kLg K w v c) w v cs) = _
    rw [rs_ls w hw v cs, rs_lg _ _ hw]
/-- the signs of a second -/
def sgn (c : Nat) : Prop := c < 128 ∧ c ≠ 59
theorem sc_sgn (v z z5 z8 : Nat) (X : XF) : ∀ c ∈ (sc_A v z z5 z8 X).2, sgn c := by
  show ∀ c ∈ (sc_4 v z z5 z8 (sc_3 z (sc_2 z8 (sc_1 X)))).2, sgn c
  generalize sc_3 z (sc_2 z8 (sc_1 X)) = Y
  have g1 : ∀ c ∈ (go_1 Y).2, sgn c := by
    unfold go_1
    split
    · intro c hc; cases List.mem_singleton.mp hc; exact ⟨by decide, by decide⟩
    · intro c hc; cases hc
  have hA : ∀ a b, ∀ c ∈ (h_A Y a b).2, sgn c := by
    intro a b
    unfold h_A
    split
    · intro c hc; cases List.mem_singleton.mp hc; exact ⟨by decide, by decide⟩
    · intro c hc; cases hc
  have gA : ∀ c ∈ (go_A v z Y).2, sgn c := by
    unfold go_A
    split
    · split
      · exact g1
      · intro c hc
        rcases List.mem_append.mp hc with q | q
        · exact g1 c q
        · cases List.mem_singleton.mp q; exact ⟨by decide, by decide⟩
    · exact g1
  have c1 : ∀ c ∈ (cn_1 v z z5 z8 Y).2, sgn c := by
    unfold cn_1
    split
    · split
      · split
        · split
          · exact gA
          · exact hA _ _
        · exact gA
      · exact hA _ _
    · exact hA _ _
  have cA : ∀ c ∈ (cn_A v z z5 z8 Y).2, sgn c := by
    unfold cn_A t_A
    split
    · exact c1
    · split
      · exact c1
      · intro c hc
        rcases List.mem_append.mp hc with q | q
        · exact c1 c q
        · cases List.mem_singleton.mp q; exact ⟨by decide, by decide⟩
  have fA : ∀ c ∈ (fl_A Y).2, sgn c := by
    unfold fl_A ds_A
    repeat' split
    all_goals intro c hc; first | (cases hc; done) | (cases List.mem_singleton.mp hc; exact ⟨by decide, by decide⟩)
  unfold sc_4
  split
  · split
    · intro c hc; cases hc
    · exact fA
  · exact cA
/-- a text that tells all: the changes, the state behind the last -/
def R_t (T : List Nat) (X : XF) : Prop := X 119 0 = tm_of T 59 T.length ∧ st_last T = X 118 0 ∧ ∀ j, T.getD j 0 < 128
theorem gD_l {a b : List Nat} {j : Nat} (h : j < a.length) : (a ++ b).getD j 0 = a.getD j 0 := by
  rw [List.getD_eq_getElem?_getD, List.getD_eq_getElem?_getD, List.getElem?_append_left h]
theorem gD_r {a b : List Nat} (j : Nat) : (a ++ b).getD (a.length + j) 0 = b.getD j 0 := by
  rw [List.getD_eq_getElem?_getD, List.getD_eq_getElem?_getD, List.getElem?_append_right (by omega), Nat.add_sub_cancel_left]
theorem tm_cong {a b : List Nat} (c : Int32) : ∀ n, (∀ i, i < n → a.getD i 0 = b.getD i 0) → tm_of a c n = tm_of b c n
  | 0, _ => rfl
  | n + 1, h => by
    have ih := tm_cong c n (fun i hi => h i (by omega))
    have e := h n (by omega)
    rw [List.getD_eq_getElem?_getD, List.getD_eq_getElem?_getD] at e
    show tm_of a c n + (if nI (a[n]?.getD 0) = c then 1 else 0) = tm_of b c n + (if nI (b[n]?.getD 0) = c then 1 else 0)
    rw [ih, e]
theorem tm_add (a b : List Nat) (c : Int32) : ∀ n, tm_of (a ++ b) c (a.length + n) = tm_of a c a.length + tm_of b c n
  | 0 => by
    show tm_of (a ++ b) c a.length = _ + 0
    rw [Int32.add_zero]
    exact tm_cong c _ (fun i hi => gD_l hi)
  | n + 1 => by
    have ih := tm_add a b c n
    have e := gD_r (a := a) (b := b) n
    rw [List.getD_eq_getElem?_getD, List.getD_eq_getElem?_getD] at e
    show tm_of (a ++ b) c (a.length + n) + (if nI ((a ++ b)[a.length + n]?.getD 0) = c then 1 else 0) = tm_of a c a.length + (tm_of b c n + (if nI (b[n]?.getD 0) = c then 1 else 0))
    rw [ih, e, Int32.add_assoc]
theorem tm_none (b : List Nat) (c : Int32) : ∀ n, (∀ i, i < n → ¬ nI (b.getD i 0) = c) → tm_of b c n = 0
  | 0, _ => rfl
  | n + 1, h => by
    have e := h n (by omega)
    rw [List.getD_eq_getElem?_getD] at e
    show tm_of b c n + (if nI (b[n]?.getD 0) = c then 1 else 0) = 0
    rw [tm_none b c n (fun i hi => h i (by omega)), if_neg e]
    rfl
theorem nI_59 {c : Nat} (h : sgn c) : ¬ nI c = 59 := fun q => h.2 ((nI_eq (by have := h.1; omega) (by decide)).mp q)
theorem dec_dig {v j : Nat} (h : j < (decL v).length) : 48 ≤ (decL v).getD j 0 ∧ (decL v).getD j 0 ≤ 57 := by
  rw [decL_len] at h
  rw [decL_get h]
  omega
theorem lg_text (T : List Nat) (v c : Nat) (hc : sgn c) (hT0 : T.length < 2 ^ 28) (hv : v < 1000000) : tm_of (T ++ decL v ++ [c] ++ [59]) 59 (T ++ decL v ++ [c] ++ [59]).length = tm_of T 59 T.length + 1 ∧ st_last (T ++ decL v ++ [c] ++ [59]) = st_of (nI c) ∧ ((∀ j, T.getD j 0 < 128) → ∀ j, (T ++ decL v ++ [c] ++ [59]).getD j 0 < 128) := by
  have l1 : (T ++ decL v ++ [c] ++ [59]).length = (T ++ decL v ++ [c]).length + 1 := by rw [List.length_append]; rfl
  have l2 : (T ++ decL v ++ [c]).length = (T ++ decL v).length + 1 := by rw [List.length_append]; rfl
  have l3 : (T ++ decL v).length = T.length + (decL v).length := List.length_append
  refine ⟨?_, ?_, fun hT j => ?_⟩
  · rw [l1, tm_add, l2, tm_add, l3, tm_add]
    rw [tm_none (decL v) 59 (decL v).length (fun i hi => by
      have := dec_dig hi
      exact nI_59 ⟨by omega, by omega⟩), tm_none [c] 59 1 (fun i hi => by
      obtain rfl : i = 0 := by omega
      exact nI_59 hc)]
    show tm_of T 59 T.length + 0 + 0 + (0 + 1) = _
    rw [Int32.add_zero, Int32.add_zero, Int32.zero_add]
  · have hd := (sb_dg_in v).1
    have hl : 2 ≤ (T ++ decL v ++ [c] ++ [59]).length := by rw [l1, l2]; omega
    unfold st_last
    have e : (T ++ decL v ++ [c] ++ [59]).getD ((T ++ decL v ++ [c] ++ [59]).length - 2) 0 = c := by
      have e2 : (T ++ decL v ++ [c] ++ [59]).length - 2 = (T ++ decL v).length := by rw [l1, l2]; omega
      rw [e2, gD_l (by rw [l2]; omega), show (T ++ decL v).length = (T ++ decL v).length + 0 from rfl, gD_r]
      rfl
    rw [e]
    by_cases h2 : (2 : Int32) ≤ nI (T ++ decL v ++ [c] ++ [59]).length
    · rw [if_pos h2]
    · exfalso
      apply h2
      have h6 := sb_dg6 hv
      rw [show (2 : Int32) = nI 2 from rfl, nI_leI (by decide) (by rw [l1, l2, l3, decL_len]; omega)]
      exact hl
  · by_cases h1 : j < (T ++ decL v ++ [c]).length
    · rw [gD_l h1]
      by_cases h2 : j < (T ++ decL v).length
      · rw [gD_l h2]
        by_cases h3 : j < T.length
        · rw [gD_l h3]; exact hT j
        · obtain ⟨i, rfl⟩ : ∃ i, j = T.length + i := ⟨j - T.length, by omega⟩
          rw [gD_r]
          have := dec_dig (v := v) (j := i) (by omega)
          omega
      · obtain ⟨i, rfl⟩ : ∃ i, j = (T ++ decL v).length + i := ⟨j - (T ++ decL v).length, by omega⟩
        rw [gD_r]
        cases i with
        | zero => exact hc.1
        | succ i => simp
    · obtain ⟨i, rfl⟩ : ∃ i, j = (T ++ decL v ++ [c]).length + i := ⟨j - (T ++ decL v ++ [c]).length, by omega⟩
      rw [gD_r]
      cases i with
      | zero => decide
      | succ i => simp

/-! how much is told; many seconds -/
def ci (s : Int32) : Nat := if md_ic s = 0 then 0 else 1
theorem ci_le (s : Int32) : ci s ≤ 1 := by unfold ci; split <;> omega
theorem le2 {n k : Nat} (h1 : n ≤ 1) (h2 : k ≤ 1) : n + k ≤ 2 := by omega
theorem sc_pot (v z z5 z8 : Nat) (X : XF) : (sc_A v z z5 z8 X).2.length + ci ((sc_A v z z5 z8 X).1 118 0) ≤ 1 + ci (X 118 0) := by
  have e0 : sc_3 z (sc_2 z8 (sc_1 X)) 118 = X 118 := sc_13 _ _ _ (by decide)
  show (sc_4 v z z5 z8 (sc_3 z (sc_2 z8 (sc_1 X)))).2.length + ci ((sc_5 v (sc_4 v z z5 z8 (sc_3 z (sc_2 z8 (sc_1 X)))).1) 118 0) ≤ _
  rw [sc_5_k _ _ (by decide), ← e0]
  generalize sc_3 z (sc_2 z8 (sc_1 X)) = Y
  have one : ∀ s, ¬ md_ic s = 0 → ci s = 1 := fun s h => if_neg h
  have zero : ∀ s, md_ic s = 0 → ci s = 0 := fun s h => if_pos h
  unfold sc_4
  by_cases hic : md_ic (Y 118 0) = 0
  · rw [if_pos hic]
    by_cases hl : md_hl (Y 118 0) = 0
    · rw [if_pos hl]
      show 0 + ci (Y 118 0) ≤ 1 + ci (Y 118 0)
      omega
    · rw [if_neg hl, zero _ hic]
      have key : (fl_A Y).2.length ≤ 1 ∧ ci ((fl_A Y).1 118 0) = 0 := by
        unfold fl_A ds_A
        repeat' split
        · exact ⟨Nat.zero_le 1, zero _ hic⟩
        · exact ⟨Nat.le_refl 1, zero _ (show md_ic 111 = 0 by decide)⟩
        · exact ⟨Nat.le_refl 1, zero _ (show md_ic 120 = 0 by decide)⟩
        · exact ⟨Nat.le_refl 1, zero _ (show md_ic 120 = 0 by decide)⟩
        · exact ⟨Nat.zero_le 1, zero _ hic⟩
      omega
  · rw [if_neg hic, one _ hic]
    have hA : ∀ a b, (h_A Y a b).2.length + ci ((h_A Y a b).1 118 0) ≤ 2 := by
      intro a b
      unfold h_A
      split
      · exact le2 (Nat.le_refl 1) (ci_le _)
      · exact le2 (Nat.zero_le 1) (ci_le _)
    have g1 : (go_1 Y).2.length ≤ 1 := by
      unfold go_1
      split
      · exact Nat.le_refl 1
      · exact Nat.zero_le 1
    have gA : (go_A v z Y).2.length + ci ((go_A v z Y).1 118 0) ≤ 2 := by
      unfold go_A
      split
      · split
        · exact le2 g1 (ci_le _)
        · show ((go_1 Y).2 ++ [70]).length + ci 102 ≤ 2
          rw [List.length_append]
          have : ci 102 = 0 := by decide
          show (go_1 Y).2.length + 1 + _ ≤ 2
          omega
      · exact le2 g1 (ci_le _)
    have c1 : (cn_1 v z z5 z8 Y).2.length + ci ((cn_1 v z z5 z8 Y).1 118 0) ≤ 2 := by
      unfold cn_1
      split
      · split
        · split
          · split
            · exact gA
            · exact hA _ _
          · exact gA
        · exact hA _ _
      · exact hA _ _
    unfold cn_A t_A
    by_cases h2 : md_ic ((cn_1 v z z5 z8 Y).1 118 0) = 0
    · rw [if_pos h2]; exact c1
    · rw [if_neg h2]
      by_cases h3 : nI (v + 1) - (cn_1 v z z5 z8 Y).1 106 0 ≤ (cn_1 v z z5 z8 Y).1 108 0
      · rw [if_pos h3]; exact c1
      · rw [if_neg h3]
        rw [one _ h2] at c1
        show ((cn_1 v z z5 z8 Y).2 ++ [83]).length + ci 115 ≤ 2
        rw [List.length_append]
        have : ci 115 = 0 := by decide
        show (cn_1 v z z5 z8 Y).2.length + 1 + _ ≤ 2
        omega
/-- a text's room -/
def okT (s : TS) : Prop := 16 ≤ s.2.1 ∧ s.1.length ≤ s.2.1 ∧ (s.2.1 = 16 ∨ s.2.1 ≤ 2 * s.1.length) ∧ s.2.2.2 ≤ 2 * s.2.1 ∧ 16 * 2 ^ s.2.2.1 ≤ s.2.1
theorem okT.app {s : TS} (h : okT s) {t : List Nat} (ht : t.length ≤ 16) : okT (apT s t) := by
  obtain ⟨h1, h2, h3, h4, h5⟩ := h
  have l : (s.1 ++ t).length = s.1.length + t.length := List.length_append
  unfold okT apT ncap gcl gsl
  by_cases hm : (s.1 ++ t).length ≤ s.2.1
  · simp only [if_pos hm]
    exact ⟨h1, hm, by omega, by omega, by simpa using h5⟩
  · simp only [if_neg hm]
    refine ⟨by omega, by omega, by omega, by omega, ?_⟩
    rw [Nat.pow_succ]
    omega
theorem okT.lg {s : TS} (h : okT s) {v c : Nat} (hv : v < 1000000) : okT (lgT s v c) := by
  have h6 := sb_dg6 hv
  exact ((h.app (by rw [decL_len]; omega)).app (by show 1 ≤ 16; omega)).app (by show 1 ≤ 16; omega)
theorem okT.ls {v : Nat} (hv : v < 1000000) : ∀ (ls : List Nat) {s : TS}, okT s → okT (lsT s v ls)
  | [], _, h => h
  | _ :: cs, _, h => okT.ls hv cs (h.lg hv)
theorem ls_len {v : Nat} (hv : v < 1000000) : ∀ (ls : List Nat) (s : TS), (lsT s v ls).1.length ≤ s.1.length + 8 * ls.length
  | [], s => by show s.1.length ≤ s.1.length + 8 * 0; omega
  | c :: cs, s => by
    have ih := ls_len hv cs (lgT s v c)
    have h6 := sb_dg6 hv
    have e : (lgT s v c).1.length = s.1.length + sb_dg v + 1 + 1 := by
      show (s.1 ++ decL v ++ [c] ++ [59]).length = _
      rw [List.length_append, List.length_append, List.length_append, decL_len]
      rfl
    show (lsT (lgT s v c) v cs).1.length ≤ s.1.length + 8 * (cs.length + 1)
    omega
theorem ls_snoc (v c : Nat) : ∀ (a : List Nat) (s : TS), lsT s v (a ++ [c]) = lgT (lsT s v a) v c
  | [], _ => rfl
  | d :: a, s => ls_snoc v c a (lgT s v d)
theorem ls_text {v : Nat} (hv : v < 1000000) : ∀ (n : Nat) (ls : List Nat) (s : TS), ls.length = n → (∀ c ∈ ls, sgn c) → s.1.length + 8 * n < 2 ^ 28 → tm_of (lsT s v ls).1 59 (lsT s v ls).1.length = tm_of s.1 59 s.1.length + nI n ∧ (ls = [] → st_last (lsT s v ls).1 = st_last s.1) ∧ (∀ a c, ls = a ++ [c] → st_last (lsT s v ls).1 = st_of (nI c)) ∧ ((∀ j, s.1.getD j 0 < 128) → ∀ j, (lsT s v ls).1.getD j 0 < 128)
  | 0, ls, s, h, _, _ => by
    obtain rfl := List.length_eq_zero_iff.mp h
    exact ⟨(Int32.add_zero _).symm, fun _ => rfl, fun a c q => absurd q (by simp), fun q => q⟩
  | n + 1, ls, s, h, hs, hb => by
    have hne : ls ≠ [] := fun q => by rw [q] at h; cases h
    obtain ⟨a, c, rfl⟩ : ∃ a c, ls = a ++ [c] := ⟨ls.dropLast, ls.getLast hne, (List.dropLast_concat_getLast hne).symm⟩
    rw [List.length_append] at h
    have ha : a.length = n := by change a.length + 1 = n + 1 at h; omega
    have ih := ls_text hv n a s ha (fun d hd => hs d (List.mem_append_left _ hd)) (by omega)
    have hl := ls_len hv a s
    have g := lg_text (lsT s v a).1 v c (hs c (List.mem_append_right _ (List.mem_singleton.mpr rfl))) (by omega) hv
    rw [ls_snoc]
    refine ⟨?_, fun q => absurd q (by simp), fun a' c' q => ?_, fun q => g.2.2 (ih.2.2.2 q)⟩
    · show tm_of ((lsT s v a).1 ++ decL v ++ [c] ++ [59]) 59 _ = _
      rw [show (lgT (lsT s v a) v c).1.length = ((lsT s v a).1 ++ decL v ++ [c] ++ [59]).length from rfl, g.1, ih.1, Int32.add_assoc, nI_1]
    · have := List.append_inj' q rfl
      cases this.2
      exact g.2.1
theorem R_t.ls {s : TS} {X X' : XF} {v : Nat} {ls : List Nat} (h : R_t s.1 X) (hv : v < 1000000) (hl : ltOk ls X X') (hs : ∀ c ∈ ls, sgn c) (hb : s.1.length + 8 * ls.length < 2 ^ 28) : R_t (lsT s v ls).1 X' := by
  obtain ⟨h1, h2, h3⟩ := h
  have t := ls_text hv ls.length ls s rfl hs hb
  refine ⟨by rw [hl.1, t.1, h1], ?_, t.2.2.2 h3⟩
  by_cases hn : ls = []
  · rw [t.2.1 hn, hl.2.1 hn, h2]
  · have e := (List.dropLast_concat_getLast hn).symm
    rw [t.2.2.1 _ _ e, hl.2.2 _ _ e]
theorem add1_int {a : Int32} (h : -1000000 ≤ a.toInt ∧ a.toInt ≤ 1000000) : (a + 1).toInt = a.toInt + 1 := by
  rw [Int32.toInt_add, Int.bmod_def]
  have z1 : (1 : Int32).toInt = 1 := rfl
  split <;> omega
theorem okT.num {s : TS} (h : okT s) (hl : s.1.length ≤ 8000) : 16 ≤ s.2.1 ∧ s.2.1 ≤ 16000 ∧ s.2.2.1 ≤ 10 ∧ s.2.2.2 ≤ 32000 := by
  obtain ⟨h1, h2, h3, h4, h5⟩ := h
  have hc : s.2.1 ≤ 16000 := by omega
  refine ⟨h1, hc, ?_, by omega⟩
  rcases Nat.lt_or_ge 10 s.2.2.1 with q | q
  · have e := Nat.pow_le_pow_right (show 0 < 2 by decide) (show 11 ≤ s.2.2.1 from q)
    have e2 : (2 : Nat) ^ 11 = 2048 := by decide
    rw [e2] at e
    generalize 2 ^ s.2.2.1 = y at e h5
    omega
  · exact q
/-! how often each letter was told -/
def LG (T : List Nat) (n : Nat → Nat) : Prop := ∀ d : Nat, (d < 48 ∨ 57 < d) → d < 128 → tm_of T (nI d) T.length = nI (n d)
def nx (n : Nat → Nat) (c : Nat) : Nat → Nat := fun d => n d + ((if d = c then 1 else 0) + (if d = 59 then 1 else 0))
theorem tm_one (c : Nat) (hc : c < 128) (d : Nat) (hd : d < 128) : tm_of [c] (nI d) 1 = nI (if d = c then 1 else 0) := by
  show (0 : Int32) + (if nI c = nI d then 1 else 0) = _
  by_cases e : d = c
  · subst e; rw [if_pos rfl, if_pos rfl]; rfl
  · rw [if_neg (fun q => e ((nI_eq (by omega) (by omega)).mp q).symm), if_neg e]; rfl
theorem LG.log {T : List Nat} {n : Nat → Nat} (h : LG T n) {v c : Nat} (hc : c < 128) : LG (T ++ decL v ++ [c] ++ [59]) (nx n c) := by
  intro d h1 hd
  have l1 : (T ++ decL v ++ [c] ++ [59]).length = (T ++ decL v ++ [c]).length + 1 := by rw [List.length_append]; rfl
  have l2 : (T ++ decL v ++ [c]).length = (T ++ decL v).length + 1 := by rw [List.length_append]; rfl
  have l3 : (T ++ decL v).length = T.length + (decL v).length := List.length_append
  rw [l1, tm_add, l2, tm_add, l3, tm_add, tm_one c hc d hd, tm_one 59 (by decide) d hd, h d h1 hd]
  rw [tm_none (decL v) (nI d) (decL v).length (fun i hi q => by
    have := dec_dig hi
    have := (nI_eq (by omega) (by omega)).mp q
    omega)]
  rw [Int32.add_zero, nI_add, nI_add]
  congr 1
  unfold nx
  omega
def nxs (n : Nat → Nat) : List Nat → Nat → Nat
  | [] => n
  | c :: cs => nxs (nx n c) cs
theorem LG.ls {v : Nat} : ∀ (cs : List Nat) {s : TS} {n : Nat → Nat}, LG s.1 n → (∀ c ∈ cs, sgn c) → LG (lsT s v cs).1 (nxs n cs)
  | [], _, _, h, _ => h
  | c :: cs, s, n, h, hs => LG.ls cs (s := lgT s v c) (n := nx n c) (h.log (hs c List.mem_cons_self).1) (fun d hd => hs d (List.mem_cons_of_mem _ hd))
theorem LG_0 : LG [] (fun _ => 0) := fun _ _ _ => rfl
