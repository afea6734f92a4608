/-! the texts on both sides -/
/-- a side's text: its letters, its row's length, what it cost -/
abbrev TS := List Nat × Nat × Nat × Nat
def sd (w : Nat) (K : KF) : TS := (K.2.2.1 w, K.2.1 w, K.2.1 (4 + w), K.2.1 (6 + w))
def apT (s : TS) (t : List Nat) : TS := (s.1 ++ t, ncap (s.1 ++ t).length s.2.1, s.2.2.1 + gcl (s.1 ++ t).length s.2.1, s.2.2.2 + gsl (s.1 ++ t).length s.2.1)
def lgT (s : TS) (v c : Nat) : TS := apT (apT (apT s (decL v)) [c]) [59]
def lsT (s : TS) (v : Nat) : List Nat → TS
  | [] => s
  | c :: cs => lsT (lgT s v c) v cs
theorem sd_app0 (K : KF) (t : List Nat) : sd 0 (kApp K 0 t) = apT (sd 0 K) t := by simp [sd, kApp, apT]
theorem sd_app1 (K : KF) (t : List Nat) : sd 1 (kApp K 1 t) = apT (sd 1 K) t := by simp [sd, kApp, apT]
theorem sd_app01 (K : KF) (t : List Nat) : sd 1 (kApp K 0 t) = sd 1 K := by simp [sd, kApp]
theorem sd_app10 (K : KF) (t : List Nat) : sd 0 (kApp K 1 t) = sd 0 K := by simp [sd, kApp]
theorem sd_lg0 (K : KF) (v c : Nat) : sd 0 (kLg K 0 v c) = lgT (sd 0 K) v c := by unfold kLg lgT; rw [sd_app0, sd_app0, sd_app0]
theorem sd_lg1 (K : KF) (v c : Nat) : sd 1 (kLg K 1 v c) = lgT (sd 1 K) v c := by unfold kLg lgT; rw [sd_app1, sd_app1, sd_app1]
theorem sd_lg01 (K : KF) (v c : Nat) : sd 1 (kLg K 0 v c) = sd 1 K := by unfold kLg; rw [sd_app01, sd_app01, sd_app01]
theorem sd_lg10 (K : KF) (v c : Nat) : sd 0 (kLg K 1 v c) = sd 0 K := by unfold kLg; rw [sd_app10, sd_app10, sd_app10]
theorem sd_ls0 (v : Nat) : ∀ (ls : List Nat) (K : KF), sd 0 (kLs K 0 v ls) = lsT (sd 0 K) v ls
  | [], _ => rfl
  | c :: cs, K => by
    show sd 0 (kLs (kLg K 0 v c) 0 v cs) = lsT (lgT (sd 0 K) v c) v cs
    rw [sd_ls0 v cs, sd_lg0]
theorem sd_ls1 (v : Nat) : ∀ (ls : List Nat) (K : KF), sd 1 (kLs K 1 v ls) = lsT (sd 1 K) v ls
  | [], _ => rfl
  | c :: cs, K => by
    show sd 1 (kLs (kLg K 1 v c) 1 v cs) = lsT (lgT (sd 1 K) v c) v cs
    rw [sd_ls1 v cs, sd_lg1]
theorem sd_ls01 (v : Nat) : ∀ (ls : List Nat) (K : KF), sd 1 (kLs K 0 v ls) = sd 1 K
  | [], _ => rfl
  | c :: cs, K => by
    show sd 1 (kLs (kLg K 0 v c) 0 v cs) = _
    rw [sd_ls01 v cs, sd_lg01]
theorem sd_ls10 (v : Nat) : ∀ (ls : List Nat) (K : KF), sd 0 (kLs K 1 v ls) = sd 0 K
  | [], _ => rfl
  | c :: cs, K => by
    show sd 0 (kLs (kLg K 1 v c) 1 v cs) = _
    rw [sd_ls10 v cs, sd_lg10]
/-- what else K holds -/
def rsK (K : KF) : (Nat → Int64) × Nat × Nat × (Nat → Int64) × (Nat → UInt64) := (K.1, K.2.1 2, K.2.1 3, K.2.2.2)
theorem rs_app (K : KF) (w : Nat) (hw : w ≤ 1) (t : List Nat) : rsK (kApp K w t) = rsK K := by
  have h1 : (2 : Nat) ≠ w := by omega
  have h2 : (3 : Nat) ≠ w := by omega
  have h3 : (2 : Nat) ≠ 4 + w := by omega
  have h4 : (3 : Nat) ≠ 4 + w := by omega
  have h5 : (2 : Nat) ≠ 6 + w := by omega
  have h6 : (3 : Nat) ≠ 6 + w := by omega
  simp [rsK, kApp, h1, h2, h3, h4, h5, h6]
theorem rs_lg (K : KF) (w : Nat) (hw : w ≤ 1) (v c : Nat) : rsK (kLg K w v c) = rsK K := by unfold kLg; rw [rs_app _ _ hw, rs_app _ _ hw, rs_app _ _ hw]
theorem rs_ls (w : Nat) (hw : w ≤ 1) (v : Nat) : ∀ (ls : List Nat) (K : KF), rsK (kLs K w v ls) = rsK K
  | [], _ => rfl
  | c :: cs, K => by
    show rsK (kLs (kLg K w v c) w v cs) = _
    rw [rs_ls w hw v cs, rs_lg _ _ hw]
/-- the signs of a second -/
def sgn (c : Nat) : Prop := c < 128 ∧ c ≠ 59
theorem sc_sgn (v z z5 z8 : Nat) (X : XF) : ∀ c ∈ (sc_A v z z5 z8 X).2, sgn c := by
  show ∀ c ∈ (sc_4 v z z5 z8 (sc_3 z (sc_2 z8 (sc_1 X)))).2, sgn c
  generalize sc_3 z (sc_2 z8 (sc_1 X)) = Y
  have g1 : ∀ c ∈ (go_1 Y).2, sgn c := by
    unfold go_1
    split
    · intro c hc; cases List.mem_singleton.mp hc; exact ⟨by decide, by decide⟩
    · intro c hc; cases hc
  have hA : ∀ a b, ∀ c ∈ (h_A Y a b).2, sgn c := by
    intro a b
    unfold h_A
    split
    · intro c hc; cases List.mem_singleton.mp hc; exact ⟨by decide, by decide⟩
    · intro c hc; cases hc
  have gA : ∀ c ∈ (go_A v z Y).2, sgn c := by
    unfold go_A
    split
    · split
      · exact g1
      · intro c hc
        rcases List.mem_append.mp hc with q | q
        · exact g1 c q
        · cases List.mem_singleton.mp q; exact ⟨by decide, by decide⟩
    · exact g1
  have c1 : ∀ c ∈ (cn_1 v z z5 z8 Y).2, sgn c := by
    unfold cn_1
    split
    · split
      · split
        · split
          · exact gA
          · exact hA _ _
        · exact gA
      · exact hA _ _
    · exact hA _ _
  have cA : ∀ c ∈ (cn_A v z z5 z8 Y).2, sgn c := by
    unfold cn_A t_A
    split
    · exact c1
    · split
      · exact c1
      · intro c hc
        rcases List.mem_append.mp hc with q | q
        · exact c1 c q
        · cases List.mem_singleton.mp q; exact ⟨by decide, by decide⟩
  have fA : ∀ c ∈ (fl_A Y).2, sgn c := by
    unfold fl_A ds_A
    repeat' split
    all_goals intro c hc; first | (cases hc; done) | (cases List.mem_singleton.mp hc; exact ⟨by decide, by decide⟩)
  unfold sc_4
  split
  · split
    · intro c hc; cases hc
    · exact fA
  · exact cA
/-- a text that tells all: the changes, the state behind the last -/
def R_t (T : List Nat) (X : XF) : Prop := X 119 0 = tm_of T 59 T.length ∧ st_last T = X 118 0 ∧ ∀ j, T.getD j 0 < 128
theorem gD_l {a b : List Nat} {j : Nat} (h : j < a.length) : (a ++ b).getD j 0 = a.getD j 0 := by
  rw [List.getD_eq_getElem?_getD, List.getD_eq_getElem?_getD, List.getElem?_append_left h]
theorem gD_r {a b : List Nat} (j : Nat) : (a ++ b).getD (a.length + j) 0 = b.getD j 0 := by
  rw [List.getD_eq_getElem?_getD, List.getD_eq_getElem?_getD, List.getElem?_append_right (by omega), Nat.add_sub_cancel_left]
theorem tm_cong {a b : List Nat} (c : Int32) : ∀ n, (∀ i, i < n → a.getD i 0 = b.getD i 0) → tm_of a c n = tm_of b c n
  | 0, _ => rfl
  | n + 1, h => by
    have ih := tm_cong c n (fun i hi => h i (by omega))
    have e := h n (by omega)
    rw [List.getD_eq_getElem?_getD, List.getD_eq_getElem?_getD] at e
    show tm_of a c n + (if nI (a[n]?.getD 0) = c then 1 else 0) = tm_of b c n + (if nI (b[n]?.getD 0) = c then 1 else 0)
    rw [ih, e]
theorem tm_add (a b : List Nat) (c : Int32) : ∀ n, tm_of (a ++ b) c (a.length + n) = tm_of a c a.length + tm_of b c n
  | 0 => by
    show tm_of (a ++ b) c a.length = _ + 0
    rw [Int32.add_zero]
    exact tm_cong c _ (fun i hi => gD_l hi)
  | n + 1 => by
    have ih := tm_add a b c n
    have e := gD_r (a := a) (b := b) n
    rw [List.getD_eq_getElem?_getD, List.getD_eq_getElem?_getD] at e
    show tm_of (a ++ b) c (a.length + n) + (if nI ((a ++ b)[a.length + n]?.getD 0) = c then 1 else 0) = tm_of a c a.length + (tm_of b c n + (if nI (b[n]?.getD 0) = c then 1 else 0))
    rw [ih, e, Int32.add_assoc]
theorem tm_none (b : List Nat) (c : Int32) : ∀ n, (∀ i, i < n → ¬ nI (b.getD i 0) = c) → tm_of b c n = 0
  | 0, _ => rfl
  | n + 1, h => by
    have e := h n (by omega)
    rw [List.getD_eq_getElem?_getD] at e
    show tm_of b c n + (if nI (b[n]?.getD 0) = c then 1 else 0) = 0
    rw [tm_none b c n (fun i hi => h i (by omega)), if_neg e]
    rfl
theorem nI_59 {c : Nat} (h : sgn c) : ¬ nI c = 59 := fun q => h.2 ((nI_eq (by have := h.1; omega) (by decide)).mp q)
theorem dec_dig {v j : Nat} (h : j < (decL v).length) : 48 ≤ (decL v).getD j 0 ∧ (decL v).getD j 0 ≤ 57 := by
  rw [decL_len] at h
  rw [decL_get h]
  omega
theorem lg_text (T : List Nat) (v c : Nat) (hc : sgn c) (hT0 : T.length < 2 ^ 28) (hv : v < 1000000) : tm_of (T ++ decL v ++ [c] ++ [59]) 59 (T ++ decL v ++ [c] ++ [59]).length = tm_of T 59 T.length + 1 ∧ st_last (T ++ decL v ++ [c] ++ [59]) = st_of (nI c) ∧ ((∀ j, T.getD j 0 < 128) → ∀ j, (T ++ decL v ++ [c] ++ [59]).getD j 0 < 128) := by
  have l1 : (T ++ decL v ++ [c] ++ [59]).length = (T ++ decL v ++ [c]).length + 1 := by rw [List.length_append]; rfl
  have l2 : (T ++ decL v ++ [c]).length = (T ++ decL v).length + 1 := by rw [List.length_append]; rfl
  have l3 : (T ++ decL v).length = T.length + (decL v).length := List.length_append
  refine ⟨?_, ?_, fun hT j => ?_⟩
  · rw [l1, tm_add, l2, tm_add, l3, tm_add]
    rw [tm_none (decL v) 59 (decL v).length (fun i hi => by
      have := dec_dig hi
      exact nI_59 ⟨by omega, by omega⟩), tm_none [c] 59 1 (fun i hi => by
      obtain rfl : i = 0 := by omega
      exact nI_59 hc)]
    show tm_of T 59 T.length + 0 + 0 + (0 + 1) = _
    rw [Int32.add_zero, Int32.add_zero, Int32.zero_add]
  · have hd := (sb_dg_in v).1
    have hl : 2 ≤ (T ++ decL v ++ [c] ++ [59]).length := by rw [l1, l2]; omega
    unfold st_last
    have e : (T ++ decL v ++ [c] ++ [59]).getD ((T ++ decL v ++ [c] ++ [59]).length - 2) 0 = c := by
      have e2 : (T ++ decL v ++ [c] ++ [59]).length - 2 = (T ++ decL v).length := by rw [l1, l2]; omega
      rw [e2, gD_l (by rw [l2]; omega), show (T ++ decL v).length = (T ++ decL v).length + 0 from rfl, gD_r]
      rfl
    rw [e]
    by_cases h2 : (2 : Int32) ≤ nI (T ++ decL v ++ [c] ++ [59]).length
    · rw [if_pos h2]
    · exfalso
      apply h2
      have h6 := sb_dg6 hv
      rw [show (2 : Int32) = nI 2 from rfl, nI_leI (by decide) (by rw [l1, l2, l3, decL_len]; omega)]
      exact hl
  · by_cases h1 : j < (T ++ decL v ++ [c]).length
    · rw [gD_l h1]
      by_cases h2 : j < (T ++ decL v).length
      · rw [gD_l h2]
        by_cases h3 : j < T.length
        · rw [gD_l h3]; exact hT j
        · obtain ⟨i, rfl⟩ : ∃ i, j = T.length + i := ⟨j - T.length, by omega⟩
          rw [gD_r]
          have := dec_dig (v := v) (j := i) (by omega)
          omega
      · obtain ⟨i, rfl⟩ : ∃ i, j = (T ++ decL v).length + i := ⟨j - (T ++ decL v).length, by omega⟩
        rw [gD_r]
        cases i with
        | zero => exact hc.1
        | succ i => simp
    · obtain ⟨i, rfl⟩ : ∃ i, j = (T ++ decL v ++ [c]).length + i := ⟨j - (T ++ decL v ++ [c]).length, by omega⟩
      rw [gD_r]
      cases i with
      | zero => decide
      | succ i => simp
