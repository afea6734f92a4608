/-! the count, the flight -/
def stOk (s : Int32) : Prop := s = 45 ∨ s = 99 ∨ s = 104 ∨ s = 115 ∨ s = 102 ∨ s = 120 ∨ s = 111
/-- the count's numbers on both sides, whatever they are -/
def R_c0 (v : Nat) (X M : XF) (J : Nat → Int64) : Prop := X 101 0 = nI v ∧ M 101 0 = nI v ∧ X 118 0 = M 102 0 ∧ X 106 0 = M 104 0 ∧ X 109 0 = M 105 0 ∧ X 110 0 = M 106 0 ∧ X 114 0 = M 110 0 ∧ ((X 113 0 = 45 ∧ M 109 0 = 0) ∨ (X 113 0 = M 109 0 ∧ ¬ X 113 0 = 45 ∧ ¬ X 113 0 = 0)) ∧ (¬ md_hc (X 118 0) = 0 → X 111 0 = M 107 0 ∧ X 112 0 = M 108 0) ∧ (X 107 0).toInt64 = J 0 ∧ (X 108 0).toInt64 = J 1 ∧ M 103 0 = (if X 118 0 = 45 then 0 else 1) ∧ stOk (X 118 0) ∧ X 116 0 = M 112 0 ∧ isCh (X 111 0) ∧ isCh (X 113 0) ∧ isCh (M 107 0) ∧ isCh (M 109 0)
def R_c1 (X M : XF) : Prop := (¬ md_ic (X 118 0) = 0 → -600 ≤ (X 106 0).toInt ∧ (X 106 0).toInt ≤ -1) ∧ (X 118 0 = 102 → M 111 0 = X 106 0 ∧ 0 ≤ (X 106 0).toInt ∧ (X 106 0).toInt ≤ 59 ∧ 0 ≤ (X 116 0).toInt ∧ (X 116 0).toInt ≤ 2) ∧ (md_hl (X 118 0) = 0 → X 116 0 = 0) ∧ (¬ md_hl (X 118 0) = 0 → X 117 0 = 1 ∧ ¬ inr (X 107 0) (X 108 0) (X 115 0) = 0)
/-- letters told: the changes, the state behind the last -/
def ltOk (ls : List Nat) (X X' : XF) : Prop := X' 119 0 = X 119 0 + nI ls.length ∧ (ls = [] → X' 118 0 = X 118 0) ∧ ∀ a c, ls = a ++ [c] → X' 118 0 = st_of (nI c)
theorem lt_nil {X X' : XF} (h1 : X' 119 0 = X 119 0) (h2 : X' 118 0 = X 118 0) : ltOk [] X X' := ⟨by rw [h1]; exact (Int32.add_zero _).symm, fun _ => h2, fun a c h => by cases a <;> cases h⟩
theorem lt_one {X X' : XF} {c : Nat} (h1 : X' 119 0 = X 119 0 + 1) (h2 : X' 118 0 = st_of (nI c)) : ltOk [c] X X' := by
  refine ⟨h1, (fun h => by cases h), fun a d h => ?_⟩
  have := List.append_inj' (show [] ++ [c] = a ++ [d] from h) rfl
  cases this.2
  exact h2
theorem lt_add {X X' X'' : XF} {ls : List Nat} {c : Nat} (h : ltOk ls X X') (h1 : X'' 119 0 = X' 119 0 + 1) (h2 : X'' 118 0 = st_of (nI c)) : ltOk (ls ++ [c]) X X'' := ⟨by rw [h1, h.1, List.length_append, ← nI_add, Int32.add_assoc]; rfl, fun q => absurd q (by simp), fun a d q => by
  have := List.append_inj' q rfl
  cases this.2
  exact h2⟩
theorem ic_of {s : Int32} (h : ¬ md_ic s = 0) : s = 99 ∨ s = 104 := by
  unfold md_ic at h
  by_cases h1 : s = 99
  · exact Or.inl h1
  · by_cases h2 : s = 104
    · exact Or.inr h2
    · rw [if_neg h1, if_neg h2] at h
      exact absurd rfl h
/-- the count held: both sides -/
theorem hold_eq {v : Nat} {X M : XF} {J : Nat → Int64} (h : R_c0 v X M J) (h1 : R_c1 X M) (hic : ¬ md_ic (X 118 0) = 0) {c r : Int32} (hc : isCh c) (c0 : ¬ c = 0) (c45 : ¬ c = 45) :
    R_c0 v (h_A X c r).1 (gc_a (gc_f (gc_h (si (si M 108 r) 107 c)))).1 J ∧ R_c1 (h_A X c r).1 (gc_a (gc_f (gc_h (si (si M 108 r) 107 c)))).1 ∧ (h_A X c r).2 = (gc_a (gc_f (gc_h (si (si M 108 r) 107 c)))).2 ∧ ltOk (h_A X c r).2 X (h_A X c r).1 ∧ (h_A X c r).1 118 0 = 104 ∧ (h_A X c r).1 106 0 = X 106 0 := by
  obtain ⟨a1, a2, a3, a4, a5, a6, a7, a8, a9, a10, a11, a12, a13, a14, a15, a16, a17, a18⟩ := h
  obtain ⟨b1, b2, b3, b4⟩ := h1
  have hat := b1 hic
  have hl0 : md_hl (X 118 0) = 0 := by rcases ic_of hic with e | e <;> rw [e] <;> decide
  have hb1 : M 103 0 = 1 := by rw [a12]; rcases ic_of hic with e | e <;> rw [e] <;> decide
  have e16 := b3 hl0
  have m109 : gc_h (si (si M 108 r) 107 c) 109 0 = M 109 0 := rfl
  have fin : ∀ (Y N : XF), Y 101 = X 101 → N 101 = M 101 → Y 118 0 = 104 → N 102 0 = 104 → Y 106 = X 106 → N 104 = M 104 → Y 109 0 = X 109 0 + 1 → N 105 0 = M 105 0 + 1 → Y 110 0 = X 110 0 + 1 → N 106 0 = M 106 0 + 1 → Y 114 0 = N 110 0 → ((Y 113 0 = 45 ∧ N 109 0 = 0) ∨ (Y 113 0 = N 109 0 ∧ ¬ Y 113 0 = 45 ∧ ¬ Y 113 0 = 0)) → Y 111 0 = c → N 107 0 = c → Y 112 0 = r → N 108 0 = r → Y 107 = X 107 → Y 108 = X 108 → N 103 = M 103 → Y 116 = X 116 → N 112 = M 112 → isCh (Y 113 0) → isCh (N 109 0) → R_c0 v Y N J ∧ R_c1 Y N := by
    intro Y N f1 f2 f3 f4 f5 f6 f7 f8 f9 f10 f11 f12 f13 f14 f15 f16 f17 f18 f19 f20 f21 f22 f23
    refine ⟨⟨by rw [f1]; exact a1, by rw [f2]; exact a2, f3.trans f4.symm, by rw [f5, f6]; exact a4, by rw [f7, f8, a5], by rw [f9, f10, a6], f11, f12, fun _ => ⟨f13.trans f14.symm, f15.trans f16.symm⟩, by rw [f17]; exact a10, by rw [f18]; exact a11, by rw [f19, f3, hb1]; rfl, by rw [f3]; exact Or.inr (Or.inr (Or.inl rfl)), by rw [f20, f21]; exact a14, by rw [f13]; exact hc, f22, by rw [f14]; exact hc, f23⟩, fun _ => by rw [f5]; exact hat, fun q => by rw [f3] at q; exact absurd q (by decide), fun _ => by rw [f20]; exact e16, fun q => by rw [f3] at q; exact absurd rfl q⟩
  have st : ∀ s, X 118 0 = s → (cd_stay X c r) 118 0 = s := fun s e => by rw [cd_st _ _ _ (by decide)]; exact e
  by_cases hf : X 113 0 = 45
  · have hM : M 109 0 = 0 := by
      rcases a8 with q | q
      · exact q.2
      · exact absurd hf q.2.1
    have ecd : cd_stay X c r = si (si (si (si (si (si X 111 c) 112 r) 113 c) 114 r) 109 (X 109 0 + 1)) 110 (X 110 0 + 1) := if_pos hf
    have egf : gc_f (gc_h (si (si M 108 r) 107 c)) = si (si (gc_h (si (si M 108 r) 107 c)) 109 c) 110 r := if_pos hM
    unfold h_A gc_a
    rw [ecd, egf]
    rcases ic_of hic with e | e
    · have eM : si (si (gc_h (si (si M 108 r) 107 c)) 109 c) 110 r 102 0 = 99 := by show M 102 0 = 99; rw [← a3]; exact e
      rw [if_pos e, if_pos eM]
      have k1 := fin (pch 104 (si (si (si (si (si (si X 111 c) 112 r) 113 c) 114 r) 109 (X 109 0 + 1)) 110 (X 110 0 + 1))) (si (si (si (gc_h (si (si M 108 r) 107 c)) 109 c) 110 r) 102 104) rfl rfl rfl rfl rfl rfl rfl rfl rfl rfl rfl (Or.inr ⟨rfl, c45, c0⟩) rfl rfl rfl rfl rfl rfl rfl rfl rfl hc hc
      exact ⟨k1.1, k1.2, rfl, lt_one rfl (show (104 : Int32) = st_of (nI 72) by decide), rfl, rfl⟩
    · have eM : si (si (gc_h (si (si M 108 r) 107 c)) 109 c) 110 r 102 0 = 104 := by show M 102 0 = 104; rw [← a3]; exact e
      have ne : ¬ X 118 0 = 99 := by rw [e]; decide
      rw [if_neg ne, if_neg (by rw [eM]; decide)]
      have k1 := fin (si (si (si (si (si (si X 111 c) 112 r) 113 c) 114 r) 109 (X 109 0 + 1)) 110 (X 110 0 + 1)) (si (si (gc_h (si (si M 108 r) 107 c)) 109 c) 110 r) rfl rfl e eM rfl rfl rfl rfl rfl rfl rfl (Or.inr ⟨rfl, c45, c0⟩) rfl rfl rfl rfl rfl rfl rfl rfl rfl hc hc
      exact ⟨k1.1, k1.2, rfl, lt_nil rfl rfl, e, rfl⟩
  · have h8 : X 113 0 = M 109 0 ∧ ¬ X 113 0 = 45 ∧ ¬ X 113 0 = 0 := by
      rcases a8 with q | q
      · exact absurd q.1 hf
      · exact q
    have hM : ¬ M 109 0 = 0 := by rw [← h8.1]; exact h8.2.2
    have ecd : cd_stay X c r = si (si (si (si X 111 c) 112 r) 109 (X 109 0 + 1)) 110 (X 110 0 + 1) := if_neg hf
    have egf : gc_f (gc_h (si (si M 108 r) 107 c)) = gc_h (si (si M 108 r) 107 c) := if_neg hM
    unfold h_A gc_a
    rw [ecd, egf]
    rcases ic_of hic with e | e
    · have eM : gc_h (si (si M 108 r) 107 c) 102 0 = 99 := by show M 102 0 = 99; rw [← a3]; exact e
      rw [if_pos e, if_pos eM]
      have k1 := fin (pch 104 (si (si (si (si X 111 c) 112 r) 109 (X 109 0 + 1)) 110 (X 110 0 + 1))) (si (gc_h (si (si M 108 r) 107 c)) 102 104) rfl rfl rfl rfl rfl rfl rfl rfl rfl rfl a7 (Or.inr h8) rfl rfl rfl rfl rfl rfl rfl rfl rfl a16 a18
      exact ⟨k1.1, k1.2, rfl, lt_one rfl (show (104 : Int32) = st_of (nI 72) by decide), rfl, rfl⟩
    · have eM : gc_h (si (si M 108 r) 107 c) 102 0 = 104 := by show M 102 0 = 104; rw [← a3]; exact e
      have ne : ¬ X 118 0 = 99 := by rw [e]; decide
      rw [if_neg ne, if_neg (by rw [eM]; decide)]
      have k1 := fin (si (si (si (si X 111 c) 112 r) 109 (X 109 0 + 1)) 110 (X 110 0 + 1)) (gc_h (si (si M 108 r) 107 c)) rfl rfl e eM rfl rfl rfl rfl rfl rfl a7 (Or.inr h8) rfl rfl rfl rfl rfl rfl rfl rfl rfl a16 a18
      exact ⟨k1.1, k1.2, rfl, lt_nil rfl rfl, e, rfl⟩
/-- called off: both sides -/
theorem off_eq {v : Nat} {X M : XF} {J : Nat → Int64} (h : R_c0 v X M J) (hic : ¬ md_ic (X 118 0) = 0) (h16 : X 116 0 = 0) {c r c' r' : Int32} (hc : isCh c) (e1 : c = c') (e2 : r = r') : R_c0 v (pch 115 (si (si X 111 c) 112 r)) (co_X M c' r') J ∧ R_c1 (pch 115 (si (si X 111 c) 112 r)) (co_X M c' r') := by
  subst e1 e2
  obtain ⟨a1, a2, a3, a4, a5, a6, a7, a8, a9, a10, a11, a12, a13, a14, a15, a16, a17, a18⟩ := h
  have hb1 : M 103 0 = 1 := by rw [a12]; rcases ic_of hic with e | e <;> rw [e] <;> decide
  exact ⟨⟨a1, a2, rfl, a4, a5, a6, a7, a8, fun _ => ⟨rfl, rfl⟩, a10, a11, hb1, Or.inr (Or.inr (Or.inr (Or.inl rfl))), a14, hc, a16, hc, a18⟩, fun q => absurd (show md_ic 115 = 0 by decide) q, fun q => absurd q (by decide : ¬ (115 : Int32) = 102), fun _ => h16, fun q => absurd (show md_hl 115 = 0 by decide) q⟩
/-- the first hold's cause, as it is told -/
theorem first_c {v : Nat} {X M : XF} {J : Nat → Int64} (h : R_c0 v X M J) : (if X 113 0 = 45 then (111 : Int32) else X 113 0) = (if M 109 0 = 0 then 111 else M 109 0) ∧ isCh (if X 113 0 = 45 then (111 : Int32) else X 113 0) := by
  obtain ⟨-, -, -, -, -, -, -, a8, -, -, -, -, -, -, -, a16, -⟩ := h
  rcases a8 with ⟨q1, q2⟩ | ⟨q1, q2, q3⟩
  · rw [if_pos q1, if_pos q2]
    exact ⟨rfl, by decide, by decide⟩
  · rw [if_neg q2, if_neg (by rw [← q1]; exact q3)]
    exact ⟨q1, a16⟩
/-- the time against the window's end -/
theorem shut_eq {v : Nat} {a s : Int32} {t : Int64} (hs : s.toInt64 = t) (hv : v ≤ 200000) (ha : -600 ≤ a.toInt ∧ a.toInt ≤ 0) : ((nI v).toInt64 + 1 - a.toInt64 ≤ t) = (nI (v + 1) - a ≤ s) := by
  have e1 : (nI (v + 1) - a).toInt = (v : Int) + 1 - a.toInt := by
    rw [Int32.toInt_sub, nI_toInt (by omega), Int.bmod_def]
    split <;> omega
  have e2 : ((nI v).toInt64 + 1 - a.toInt64).toInt = (v : Int) + 1 - a.toInt := by
    rw [nI_l (by omega), lN_1, Int64.toInt_sub, lN_toInt (by omega), Int32.toInt_toInt64, Int.bmod_def]
    split <;> omega
  rw [← hs]
  apply propext
  rw [Int64.le_iff_toInt_le, Int32.le_iff_toInt_le, e1, e2, Int32.toInt_toInt64]
theorem tail_eq {v : Nat} {X Y N : XF} {J : Nat → Int64} {l : List Nat} (h : R_c0 v Y N J) (h1 : R_c1 Y N) (hic : ¬ md_ic (Y 118 0) = 0) (hv : v ≤ 100000) (hl : ltOk l X Y) :
    R_c0 v (t_A v (Y, l)).1 (gc_t v J (N, l)).1 J ∧ R_c1 (t_A v (Y, l)).1 (gc_t v J (N, l)).1 ∧ (t_A v (Y, l)).2 = (gc_t v J (N, l)).2 ∧ ltOk (t_A v (Y, l)).2 X (t_A v (Y, l)).1 := by
  have hat := h1.1 hic
  have hl0 : md_hl (Y 118 0) = 0 := by rcases ic_of hic with e | e <;> rw [e] <;> decide
  have h16 := h1.2.2.1 hl0
  have fc := first_c h
  have e := shut_eq (v := v) (a := Y 106 0) (s := Y 108 0) (t := J 1) h.2.2.2.2.2.2.2.2.2.2.1 (by omega) ⟨hat.1, by omega⟩
  have e4 : Y 106 0 = N 104 0 := h.2.2.2.1
  unfold t_A gc_t
  show R_c0 v (if md_ic (Y 118 0) = 0 then (Y, l) else if nI (v + 1) - Y 106 0 ≤ Y 108 0 then (Y, l) else (pch 115 (si (si Y 111 (if Y 113 0 = 45 then 111 else Y 113 0)) 112 (Y 114 0)), l ++ [83])).1 (if (nI v).toInt64 + 1 - (N 104 0).toInt64 ≤ J 1 then (if N 104 0 = 0 then (si (si (si N 102 102) 111 0) 112 0, l ++ [70]) else (N, l)) else (co_X N (if N 109 0 = 0 then 111 else N 109 0) (N 110 0), l ++ [83])).1 J ∧ R_c1 (if md_ic (Y 118 0) = 0 then (Y, l) else if nI (v + 1) - Y 106 0 ≤ Y 108 0 then (Y, l) else (pch 115 (si (si Y 111 (if Y 113 0 = 45 then 111 else Y 113 0)) 112 (Y 114 0)), l ++ [83])).1 (if (nI v).toInt64 + 1 - (N 104 0).toInt64 ≤ J 1 then (if N 104 0 = 0 then (si (si (si N 102 102) 111 0) 112 0, l ++ [70]) else (N, l)) else (co_X N (if N 109 0 = 0 then 111 else N 109 0) (N 110 0), l ++ [83])).1 ∧ (if md_ic (Y 118 0) = 0 then (Y, l) else if nI (v + 1) - Y 106 0 ≤ Y 108 0 then (Y, l) else (pch 115 (si (si Y 111 (if Y 113 0 = 45 then 111 else Y 113 0)) 112 (Y 114 0)), l ++ [83])).2 = (if (nI v).toInt64 + 1 - (N 104 0).toInt64 ≤ J 1 then (if N 104 0 = 0 then (si (si (si N 102 102) 111 0) 112 0, l ++ [70]) else (N, l)) else (co_X N (if N 109 0 = 0 then 111 else N 109 0) (N 110 0), l ++ [83])).2 ∧ ltOk (if md_ic (Y 118 0) = 0 then (Y, l) else if nI (v + 1) - Y 106 0 ≤ Y 108 0 then (Y, l) else (pch 115 (si (si Y 111 (if Y 113 0 = 45 then 111 else Y 113 0)) 112 (Y 114 0)), l ++ [83])).2 X (if md_ic (Y 118 0) = 0 then (Y, l) else if nI (v + 1) - Y 106 0 ≤ Y 108 0 then (Y, l) else (pch 115 (si (si Y 111 (if Y 113 0 = 45 then 111 else Y 113 0)) 112 (Y 114 0)), l ++ [83])).1
  rw [if_neg hic, ← e4]
  have n0 : ¬ Y 106 0 = 0 := fun q => by
    rw [q] at hat
    have z0 : (0 : Int32).toInt = 0 := rfl
    omega
  by_cases hc : nI (v + 1) - Y 106 0 ≤ Y 108 0
  · rw [if_pos hc, if_pos (e ▸ hc), if_neg n0]
    exact ⟨h, h1, rfl, hl⟩
  · rw [if_neg hc, if_neg (fun q => hc (e ▸ q))]
    have o := off_eq h hic h16 fc.2 fc.1 h.2.2.2.2.2.2.1
    exact ⟨o.1, o.2, rfl, lt_add hl rfl (show (115 : Int32) = st_of (nI 83) by decide)⟩
/-- the count goes further, before the window is asked -/
theorem go_eq {v : Nat} {X M : XF} {J : Nat → Int64} (h : R_c0 v X M J) (h1 : R_c1 X M) (hic : ¬ md_ic (X 118 0) = 0) :
    R_c0 v (go_2 (go_1 X).1) (gc_g (gc_b (si (si M 108 (-1)) 107 0)).1) J ∧ (go_1 X).2 = (gc_b (si (si M 108 (-1)) 107 0)).2 ∧ ltOk (go_1 X).2 X (go_2 (go_1 X).1) ∧ (go_2 (go_1 X).1) 118 0 = 99 ∧ (go_2 (go_1 X).1) 106 0 = X 106 0 + 1 ∧ (go_2 (go_1 X).1) 116 0 = 0 ∧ (gc_g (gc_b (si (si M 108 (-1)) 107 0)).1) 112 0 = 0 := by
  obtain ⟨a1, a2, a3, a4, a5, a6, a7, a8, a9, a10, a11, a12, a13, a14, a15, a16, a17, a18⟩ := h
  obtain ⟨b1, b2, b3, b4⟩ := h1
  have hl0 : md_hl (X 118 0) = 0 := by rcases ic_of hic with e | e <;> rw [e] <;> decide
  have hb1 : M 103 0 = 1 := by rw [a12]; rcases ic_of hic with e | e <;> rw [e] <;> decide
  have e16 := b3 hl0
  have z0 : isCh (0 : Int32) := ⟨by decide, by decide⟩
  have no : ¬ ¬ md_hc (99 : Int32) = 0 := fun q => q (by decide)
  rcases ic_of hic with e | e
  · have eM : ¬ (si (si M 108 (-1)) 107 0) 102 0 = 104 := by show ¬ M 102 0 = 104; rw [← a3, e]; decide
    have g1 : go_1 X = (X, []) := if_neg (by rw [e]; decide)
    have g2 : gc_b (si (si M 108 (-1)) 107 0) = (si (si M 108 (-1)) 107 0, []) := if_neg eM
    rw [g1, g2]
    refine ⟨⟨a1, a2, a3, ?_, a5, rfl, a7, a8, fun q => absurd q (by show ¬ ¬ md_hc (X 118 0) = 0; rw [e]; exact no), a10, a11, a12, a13, a14, a15, a16, z0, a18⟩, rfl, lt_nil rfl rfl, e, rfl, e16, ?_⟩
    · show X 106 0 + 1 = M 104 0 + 1
      rw [a4]
    · show M 112 0 = 0
      rw [← a14]; exact e16
  · have eM : (si (si M 108 (-1)) 107 0) 102 0 = 104 := by show M 102 0 = 104; rw [← a3, e]
    have g1 : go_1 X = (pch 99 X, [71]) := if_pos e
    have g2 : gc_b (si (si M 108 (-1)) 107 0) = (si (si (si M 108 (-1)) 107 0) 102 99, [71]) := if_pos eM
    rw [g1, g2]
    refine ⟨⟨a1, a2, rfl, ?_, a5, rfl, a7, a8, fun q => absurd q no, a10, a11, ?_, Or.inr (Or.inl rfl), a14, a15, a16, z0, a18⟩, rfl, lt_one rfl (show (99 : Int32) = st_of (nI 71) by decide), rfl, rfl, e16, ?_⟩
    · show X 106 0 + 1 = M 104 0 + 1
      rw [a4]
    · show M 103 0 = _
      rw [hb1]; rfl
    · show M 112 0 = 0
      rw [← a14]; exact e16
theorem cnt_eq {v z z5 z8 zs : Nat} {X M : XF} {K : KF} (h : R_c0 v X M K.1) (h1 : R_c1 X M) (hic : ¬ md_ic (X 118 0) = 0) (hv : v ≤ 100000) (hfs : fs_A X z = md_fn M K zs z 0) (hkp : (kp_A z5 z8 X = 0) = (gw_m M z5 z8 = 0)) (hz : z ≤ 12) (hk : X 25 = M 63) (hkind : ∀ i, i < z → ¬ X 25 i = 0 ∧ ¬ X 25 i = 45) (hch : ∀ i, isCh (X 25 i)) (hgood : fs_A X z = -1 → go_gd X z = 1) :
    R_c0 v (cn_A v z z5 z8 X).1 (gc_A v z zs z5 z8 M K).1 K.1 ∧ R_c1 (cn_A v z z5 z8 X).1 (gc_A v z zs z5 z8 M K).1 ∧ (cn_A v z z5 z8 X).2 = (gc_A v z zs z5 z8 M K).2 ∧ ltOk (cn_A v z z5 z8 X).2 X (cn_A v z z5 z8 X).1 := by
  have hat := h1.1 hic
  have h107 := h.2.2.2.2.2.2.2.2.2.1
  have h108 := h.2.2.2.2.2.2.2.2.2.2.1
  have e4 := h.2.2.2.1
  have eo : (K.1 0 ≤ (nI (v + 1)).toInt64) = (X 107 0 ≤ nI (v + 1)) := by
    rw [← h107]
    exact propext (le64 _ _)
  -- the cause, on both sides
  have hold : ∀ c r, gw_c M K v z zs z5 z8 = c → md_fn M K zs z 0 = r → isCh c → ¬ c = 0 → ¬ c = 45 → cn_1 v z z5 z8 X = h_A X c r → R_c0 v (cn_A v z z5 z8 X).1 (gc_A v z zs z5 z8 M K).1 K.1 ∧ R_c1 (cn_A v z z5 z8 X).1 (gc_A v z zs z5 z8 M K).1 ∧ (cn_A v z z5 z8 X).2 = (gc_A v z zs z5 z8 M K).2 ∧ ltOk (cn_A v z z5 z8 X).2 X (cn_A v z z5 z8 X).1 := by
    intro c r ec er hc c0 c45 e1
    obtain ⟨q1, q2, q3, q4, q5, q6⟩ := hold_eq h h1 hic (c := c) (r := r) hc c0 c45
    have e2 : gc_1 M K v z zs z5 z8 = gc_a (gc_f (gc_h (si (si M 108 r) 107 c))) := by
      unfold gc_1 gc_0 gw_X
      rw [ec, er, if_neg c0]
    have t := tail_eq (v := v) (X := X) (Y := (h_A X c r).1) (N := (gc_a (gc_f (gc_h (si (si M 108 r) 107 c)))).1) (J := K.1) (l := (h_A X c r).2) q1 q2 (by rw [q5]; decide) hv q4
    have ep : cn_A v z z5 z8 X = t_A v ((h_A X c r).1, (h_A X c r).2) := by unfold cn_A; rw [e1]
    have eg : gc_A v z zs z5 z8 M K = gc_t v K.1 ((gc_a (gc_f (gc_h (si (si M 108 r) 107 c)))).1, (h_A X c r).2) := by unfold gc_A; rw [e2, q3]
    rw [ep, eg]
    exact t
  by_cases hf : md_fn M K zs z 0 = -1
  · by_cases hg : gw_m M z5 z8 = 0
    · by_cases ho : X 106 0 = -1 ∧ ¬ X 107 0 ≤ nI (v + 1)
      · refine hold 111 (-1) ?_ hf ⟨by decide, by decide⟩ (by decide) (by decide) ?_
        · unfold gw_c
          rw [if_pos hf, if_pos hg, ← e4, if_pos ho.1, if_neg (fun q => ho.2 (eo ▸ q))]
        · unfold cn_1
          rw [hfs, if_pos hf, if_pos (hkp ▸ hg), if_pos ho.1, if_neg ho.2]
      · -- the count goes on
        have ec : gw_c M K v z zs z5 z8 = 0 := by
          unfold gw_c
          rw [if_pos hf, if_pos hg, ← e4]
          by_cases q : X 106 0 = -1
          · rw [if_pos q, if_pos (by rw [eo]; exact Classical.not_not.mp (fun w => ho ⟨q, w⟩))]
          · rw [if_neg q]
        have e1 : cn_1 v z z5 z8 X = go_A v z X := by
          unfold cn_1
          rw [hfs, if_pos hf, if_pos (hkp ▸ hg)]
          by_cases q : X 106 0 = -1
          · rw [if_pos q, if_pos (Classical.not_not.mp (fun w => ho ⟨q, w⟩))]
          · rw [if_neg q]
        have e2 : gc_1 M K v z zs z5 z8 = (gc_g (gc_b (si (si M 108 (-1)) 107 0)).1, (gc_b (si (si M 108 (-1)) 107 0)).2) := by
          unfold gc_1 gc_0 gw_X
          rw [ec, hf, if_pos rfl]
        obtain ⟨q1, q2, q3, q4, q5, q6, q7⟩ := go_eq h h1 hic
        have at1 : (X 106 0 + 1).toInt = (X 106 0).toInt + 1 := by
          rw [Int32.toInt_add, Int.bmod_def]
          have z1 : (1 : Int32).toInt = 1 := rfl
          split <;> omega
        by_cases hz0 : X 106 0 + 1 = 0
        · have hm1 : X 106 0 = -1 := by
            apply Int32.toInt_inj.mp
            rw [hz0] at at1
            have z0 : (0 : Int32).toInt = 0 := rfl
            have z1 : (-1 : Int32).toInt = -1 := rfl
            omega
          have hop : X 107 0 ≤ nI (v + 1) := Classical.not_not.mp (fun w => ho ⟨hm1, w⟩)
          by_cases hw : inr (X 107 0) (X 108 0) (nI (v + 1)) = 0
          · -- behind the window: called off
            have hsh : ¬ nI (v + 1) ≤ X 108 0 := fun q => by
              have : ¬ inr (X 107 0) (X 108 0) (nI (v + 1)) = 0 := inr_iff.mpr ⟨Int32.le_iff_toInt_le.mp hop, Int32.le_iff_toInt_le.mp q⟩
              exact this hw
            have eA : cn_A v z z5 z8 X = (pch 115 (si (si (go_2 (go_1 X).1) 111 (if (go_2 (go_1 X).1) 113 0 = 45 then 111 else (go_2 (go_1 X).1) 113 0)) 112 ((go_2 (go_1 X).1) 114 0)), (go_1 X).2 ++ [83]) := by
              unfold cn_A
              rw [e1]
              unfold go_A
              rw [if_pos hz0, if_pos hw]
              unfold t_A
              rw [if_neg (show ¬ md_ic ((go_2 (go_1 X).1) 118 0) = 0 by rw [q4]; decide), if_neg (show ¬ nI (v + 1) - (go_2 (go_1 X).1) 106 0 ≤ (go_2 (go_1 X).1) 108 0 by
                rw [q5, hz0, Int32.sub_zero]
                rw [show (go_2 (go_1 X).1) 108 = X 108 by rw [go_2_k _ (by decide), go_1_k _ (by decide)]]
                exact hsh)]
            have eG : gc_A v z zs z5 z8 M K = (co_X (gc_g (gc_b (si (si M 108 (-1)) 107 0)).1) (if (gc_g (gc_b (si (si M 108 (-1)) 107 0)).1) 109 0 = 0 then 111 else (gc_g (gc_b (si (si M 108 (-1)) 107 0)).1) 109 0) ((gc_g (gc_b (si (si M 108 (-1)) 107 0)).1) 110 0), (gc_b (si (si M 108 (-1)) 107 0)).2 ++ [83]) := by
              unfold gc_A
              rw [e2]
              unfold gc_t
              have es := shut_eq (v := v) (a := (go_2 (go_1 X).1) 106 0) (s := X 108 0) (t := K.1 1) h108 (by omega) (by rw [q5, hz0]; decide)
              rw [if_neg (show ¬ (nI v).toInt64 + 1 - ((gc_g (gc_b (si (si M 108 (-1)) 107 0)).1) 104 0).toInt64 ≤ K.1 1 by
                rw [← q1.2.2.2.1, es, q5, hz0, Int32.sub_zero]
                exact hsh)]
            have fc := first_c q1
            have o := off_eq q1 (by rw [q4]; decide) q6 fc.2 fc.1 q1.2.2.2.2.2.2.1
            rw [eA, eG]
            exact ⟨o.1, o.2, by show _ ++ [83] = _ ++ [83]; rw [q2], lt_add q3 rfl (show (115 : Int32) = st_of (nI 83) by decide)⟩
          · -- in the window: the rocket leaves
            have hin := inr_iff.mp hw
            have eA : cn_A v z z5 z8 X = (go_3 v (go_gd X z) (go_2 (go_1 X).1), (go_1 X).2 ++ [70]) := by
              unfold cn_A
              rw [e1]
              unfold go_A
              rw [if_pos hz0, if_neg hw]
              unfold t_A
              exact if_pos (show md_ic 102 = 0 by decide)
            have eG : gc_A v z zs z5 z8 M K = (si (si (si (gc_g (gc_b (si (si M 108 (-1)) 107 0)).1) 102 102) 111 0) 112 0, (gc_b (si (si M 108 (-1)) 107 0)).2 ++ [70]) := by
              unfold gc_A
              rw [e2]
              unfold gc_t
              have es := shut_eq (v := v) (a := (go_2 (go_1 X).1) 106 0) (s := X 108 0) (t := K.1 1) h108 (by omega) (by rw [q5, hz0]; decide)
              rw [if_pos (show (nI v).toInt64 + 1 - ((gc_g (gc_b (si (si M 108 (-1)) 107 0)).1) 104 0).toInt64 ≤ K.1 1 by
                rw [← q1.2.2.2.1, es, q5, hz0, Int32.sub_zero]
                exact Int32.le_iff_toInt_le.mpr hin.2), if_pos (show (gc_g (gc_b (si (si M 108 (-1)) 107 0)).1) 104 0 = 0 by rw [← q1.2.2.2.1, q5, hz0])]
            obtain ⟨a1, a2, a3, a4, a5, a6, a7, a8, a9, a10, a11, a12, a13, a14, a15, a16, a17, a18⟩ := q1
            have hb1 : (gc_g (gc_b (si (si M 108 (-1)) 107 0)).1) 103 0 = 1 := by rw [a12, q4]; rfl
            have g1 : go_gd X z = 1 := hgood (by rw [hfs]; exact hf)
            rw [eA, eG]
            have k7 : (go_3 v (go_gd X z) (go_2 (go_1 X).1)) 107 = X 107 := by rw [go_3_k _ _ _ (by decide), go_2_k _ (by decide), go_1_k _ (by decide)]
            have k8 : (go_3 v (go_gd X z) (go_2 (go_1 X).1)) 108 = X 108 := by rw [go_3_k _ _ _ (by decide), go_2_k _ (by decide), go_1_k _ (by decide)]
            refine ⟨⟨a1, a2, rfl, a4, a5, a6, a7, a8, fun q => absurd q (by show ¬ ¬ md_hc (102 : Int32) = 0; exact fun w => w (by decide)), a10, a11, hb1, Or.inr (Or.inr (Or.inr (Or.inr (Or.inl rfl)))), q6, a15, a16, a17, a18⟩, ⟨fun q => absurd (show md_ic 102 = 0 by decide) q, fun _ => ⟨?_, ?_⟩, fun q => absurd q (by show ¬ md_hl (102 : Int32) = 0; decide), fun _ => ⟨g1, ?_⟩⟩, ?_, lt_add q3 rfl (show (102 : Int32) = st_of (nI 70) by decide)⟩
            · show (0 : Int32) = (go_2 (go_1 X).1) 106 0
              rw [q5, hz0]
            · show 0 ≤ ((go_2 (go_1 X).1) 106 0).toInt ∧ ((go_2 (go_1 X).1) 106 0).toInt ≤ 59 ∧ 0 ≤ ((go_2 (go_1 X).1) 116 0).toInt ∧ ((go_2 (go_1 X).1) 116 0).toInt ≤ 2
              rw [q5, hz0, q6]
              decide
            · show ¬ inr ((go_3 v (go_gd X z) (go_2 (go_1 X).1)) 107 0) ((go_3 v (go_gd X z) (go_2 (go_1 X).1)) 108 0) (nI (v + 1)) = 0
              rw [k7, k8]
              exact hw
            · show _ ++ [70] = _ ++ [70]
              rw [q2]
        · -- the count goes on below 0
          have eA : cn_A v z z5 z8 X = t_A v (go_2 (go_1 X).1, (go_1 X).2) := by
            unfold cn_A
            rw [e1]
            unfold go_A
            rw [if_neg hz0]
          have eG : gc_A v z zs z5 z8 M K = gc_t v K.1 (gc_g (gc_b (si (si M 108 (-1)) 107 0)).1, (go_1 X).2) := by
            unfold gc_A
            rw [e2, ← q2]
          rw [eA, eG]
          refine tail_eq q1 ⟨fun _ => ?_, fun q => ?_, fun _ => q6, fun q => ?_⟩ (by rw [q4]; decide) hv q3
          · rw [q5]
            have : (X 106 0 + 1).toInt ≠ 0 := fun q => hz0 (Int32.toInt_inj.mp (q.trans rfl))
            omega
          · rw [q4] at q; exact absurd q (by decide)
          · rw [q4] at q; exact absurd (show md_hl (99 : Int32) = 0 by decide) q
    · refine hold 109 (-1) ?_ hf ⟨by decide, by decide⟩ (by decide) (by decide) ?_
      · unfold gw_c
        rw [if_pos hf, if_neg hg]
      · unfold cn_1
        rw [hfs, if_pos hf, if_neg (fun q => hg (hkp ▸ q))]
  · obtain ⟨j, -, hj, ej⟩ := (md_fn_cases M K zs z 0).resolve_left hf
    have hj' : j < z := by omega
    have ecl : (md_fn M K zs z 0).toNatClampNeg = j := by rw [ej]; exact nI_clamp (by omega)
    refine hold (X 25 j) (md_fn M K zs z 0) ?_ rfl (hch j) (hkind j hj').1 (hkind j hj').2 ?_
    · unfold gw_c
      rw [if_neg hf, ecl, hk]
    · unfold cn_1
      rw [hfs, if_neg hf, ecl]
/-! the flight; a whole second; many -/
theorem add1_int {a : Int32} (h : -1000000 ≤ a.toInt ∧ a.toInt ≤ 1000000) : (a + 1).toInt = a.toInt + 1 := by
  rw [Int32.toInt_add, Int.bmod_def]
  have z1 : (1 : Int32).toInt = 1 := rfl
  split <;> omega
theorem flight_eq {v : Nat} {X M : XF} {J : Nat → Int64} (h : R_c0 v X M J) (h1 : R_c1 X M) (hs : X 118 0 = 102) (h37 : X 37 = M 62) :
    R_c0 v (fl_A X).1 (gf_A M).1 J ∧ R_c1 (fl_A X).1 (gf_A M).1 ∧ (fl_A X).2 = (gf_A M).2 ∧ ltOk (fl_A X).2 X (fl_A X).1 := by
  obtain ⟨a1, a2, a3, a4, a5, a6, a7, a8, a9, a10, a11, a12, a13, a14, a15, a16, a17, a18⟩ := h
  obtain ⟨b1, b2, b3, b4⟩ := h1
  obtain ⟨c1, c2, c3, c4, c5⟩ := b2 hs
  obtain ⟨d1, d2⟩ := b4 (by rw [hs]; decide)
  have hb1 : M 103 0 = 1 := by rw [a12, hs]; rfl
  have efar : fl_far X = gf_o M := by unfold fl_far gf_o; rw [h37]
  have eun : fl_un X = gf_u M := by unfold fl_un gf_u; rw [h37, a14]
  have eat := add1_int (a := X 106 0) (by omega)
  have e116 := add1_int (a := X 116 0) (by omega)
  have unb : 0 ≤ (fl_un X).toInt ∧ (fl_un X).toInt ≤ 3 := by
    unfold fl_un
    split
    · decide
    · rw [e116]; omega
  have un3 : (fl_un X < 3) = ¬ (fl_un X = 3) := by
    apply propext
    have := @Int32.lt_iff_toInt_lt (fl_un X) 3
    have z3 : (3 : Int32).toInt = 3 := rfl
    rw [this, ← Int32.toInt_inj, z3]
    omega
  have at60 : (X 106 0 + 1 < 60) = ¬ (X 106 0 + 1 = 60) := by
    apply propext
    have := @Int32.lt_iff_toInt_lt (X 106 0 + 1) 60
    have z3 : (60 : Int32).toInt = 60 := rfl
    rw [this, ← Int32.toInt_inj, z3, eat]
    omega
  have hM4 : (gf_1 M) 104 0 = X 106 0 + 1 := by show M 111 0 + 1 = _; rw [c1]
  have hM11 : (gf_1 M) 111 0 = X 106 0 + 1 := by show M 111 0 + 1 = _; rw [c1]
  have no2 : ¬ ¬ md_hc (102 : Int32) = 0 := fun q => q (by decide)
  -- destroyed
  have des : ∀ c, isCh c → R_c0 v (ds_A (fl_2 X) c).1 (gf_x (gf_1 M) c).1 J ∧ R_c1 (ds_A (fl_2 X) c).1 (gf_x (gf_1 M) c).1 ∧ (ds_A (fl_2 X) c).2 = (gf_x (gf_1 M) c).2 ∧ ltOk (ds_A (fl_2 X) c).2 X (ds_A (fl_2 X) c).1 := fun c hc =>
    ⟨⟨a1, a2, rfl, hM4.symm, a5, a6, a7, a8, fun _ => ⟨rfl, rfl⟩, a10, a11, hb1, Or.inr (Or.inr (Or.inr (Or.inr (Or.inr (Or.inl rfl))))), eun, hc, a16, hc, a18⟩, ⟨fun q => absurd (show md_ic 120 = 0 by decide) q, fun q => absurd q (show ¬ (120 : Int32) = 102 by decide), fun q => absurd q (show ¬ md_hl 120 = 0 by decide), fun _ => ⟨d1, d2⟩⟩, rfl, lt_one rfl (show (120 : Int32) = st_of (nI 88) by decide)⟩
  unfold fl_A gf_A
  rw [if_pos hs, ← efar, ← eun]
  by_cases hf : fl_far X = 0
  · rw [if_pos hf, if_pos hf]
    by_cases hu : fl_un X = 3
    · rw [if_pos hu, if_neg (fun q => (un3 ▸ q) hu)]
      exact des 114 ⟨by decide, by decide⟩
    · rw [if_neg hu, if_pos (un3 ▸ hu), c1]
      by_cases ha : X 106 0 + 1 = 60
      · rw [if_pos ha, if_neg (fun q => (at60 ▸ q) ha)]
        exact ⟨⟨a1, a2, rfl, hM4.symm, a5, a6, a7, a8, fun q => absurd q (fun w => w (by decide : md_hc (111 : Int32) = 0)), a10, a11, hb1, Or.inr (Or.inr (Or.inr (Or.inr (Or.inr (Or.inr rfl))))), eun, a15, a16, a17, a18⟩, ⟨fun q => absurd (show md_ic 111 = 0 by decide) q, fun q => absurd q (show ¬ (111 : Int32) = 102 by decide), fun q => absurd q (show ¬ md_hl 111 = 0 by decide), fun _ => ⟨d1, d2⟩⟩, rfl, lt_one rfl (show (111 : Int32) = st_of (nI 79) by decide)⟩
      · rw [if_neg ha, if_pos (at60 ▸ ha)]
        have hu2 : (fl_un X).toInt ≤ 2 := by
          have : (fl_un X).toInt ≠ 3 := fun q => hu (Int32.toInt_inj.mp (q.trans rfl))
          omega
        have ha2 : (X 106 0 + 1).toInt ≠ 60 := fun q => ha (Int32.toInt_inj.mp (q.trans rfl))
        refine ⟨⟨a1, a2, a3, hM4.symm, a5, a6, a7, a8, a9, a10, a11, a12, a13, eun, a15, a16, a17, a18⟩, ⟨fun q => ?_, fun _ => ⟨hM11, ?_, ?_, unb.1, hu2⟩, fun q => ?_, fun _ => ⟨d1, d2⟩⟩, rfl, lt_nil rfl rfl⟩
        · exfalso; apply q; show md_ic (X 118 0) = 0; rw [hs]; decide
        · show 0 ≤ (X 106 0 + 1).toInt
          omega
        · show (X 106 0 + 1).toInt ≤ 59
          omega
        · exfalso
          have : md_hl (X 118 0) = 0 := q
          rw [hs] at this
          exact absurd this (by decide)
  · rw [if_neg hf, if_neg hf]
    exact des 100 ⟨by decide, by decide⟩
/-- behind the flight: the count told goes on -/
theorem after_eq {v : Nat} {X M : XF} {J : Nat → Int64} (h : R_c0 v X M J) (h1 : R_c1 X M) (hl : ¬ md_hl (X 118 0) = 0) (hs : ¬ X 118 0 = 102) :
    R_c0 v (fl_A X).1 (si M 104 (M 104 0 + 1)) J ∧ R_c1 (fl_A X).1 (si M 104 (M 104 0 + 1)) ∧ (fl_A X).2 = [] ∧ ltOk (fl_A X).2 X (fl_A X).1 := by
  have e : fl_A X = (fl_1 X, []) := if_neg hs
  obtain ⟨a1, a2, a3, a4, a5, a6, a7, a8, a9, a10, a11, a12, a13, a14, a15, a16, a17, a18⟩ := h
  obtain ⟨b1, b2, b3, b4⟩ := h1
  rw [e]
  have hic : md_ic (X 118 0) = 0 := by
    rcases a13 with q | q | q | q | q | q | q <;> rw [q] at hl ⊢ <;> first | decide | exact absurd (show _ = _ by decide) hl
  refine ⟨⟨a1, a2, a3, ?_, a5, a6, a7, a8, a9, a10, a11, a12, a13, a14, a15, a16, a17, a18⟩, ⟨fun q => absurd hic q, fun q => absurd q hs, b3, b4⟩, rfl, lt_nil rfl rfl⟩
  show X 106 0 + 1 = M 104 0 + 1
  rw [a4]
def Rel (v z z5 z8 zs : Nat) (X M : XF) (J : Nat → Int64) : Prop := R_tk X M ∧ R_sp z8 X M ∧ R_mk z5 z8 X M ∧ R_sn X M ∧ R_bt X M ∧ R_li v zs X M ∧ X 100 0 = M 115 0 ∧ (X 41 = M 61 ∧ ∀ i, isBo (X 41 i)) ∧ X 37 = M 62 ∧ R_rl z X M ∧ R_c0 v X M J ∧ R_c1 X M ∧ v ≤ 100000 ∧ zs ≤ 1000
theorem R_tk.same {X M Y N : XF} (h : R_tk X M) (x : ∀ k, k = 2 ∨ k = 3 ∨ k = 4 ∨ k = 5 ∨ k = 6 → Y k = X k) (m : ∀ k, k = 43 ∨ k = 44 ∨ k = 45 ∨ k = 46 ∨ k = 47 → N k = M k) : R_tk Y N := by
  unfold R_tk
  rw [x 2 (by decide), x 3 (by decide), x 4 (by decide), x 5 (by decide), x 6 (by decide), m 43 (by decide), m 44 (by decide), m 45 (by decide), m 46 (by decide), m 47 (by decide)]
  exact h
theorem R_sp.same {z8 : Nat} {X M Y N : XF} (h : R_sp z8 X M) (x : ∀ k, k = 8 ∨ k = 9 ∨ k = 10 ∨ k = 11 ∨ k = 12 ∨ k = 102 → Y k = X k) (m : ∀ k, k = 48 ∨ k = 49 ∨ k = 50 ∨ k = 51 ∨ k = 52 ∨ k = 113 → N k = M k) : R_sp z8 Y N := by
  unfold R_sp
  rw [x 8 (by decide), x 9 (by decide), x 10 (by decide), x 11 (by decide), x 12 (by decide), x 102 (by decide), m 48 (by decide), m 49 (by decide), m 50 (by decide), m 51 (by decide), m 52 (by decide), m 113 (by decide)]
  exact h
theorem R_mk.same {z5 z8 : Nat} {X M Y N : XF} (h : R_mk z5 z8 X M) (x : ∀ k, k = 14 ∨ k = 15 ∨ k = 16 ∨ k = 103 → Y k = X k) (m : ∀ k, k = 53 ∨ k = 54 ∨ k = 55 ∨ k = 114 → N k = M k) : R_mk z5 z8 Y N := by
  unfold R_mk
  rw [x 14 (by decide), x 15 (by decide), x 16 (by decide), x 103 (by decide), m 53 (by decide), m 54 (by decide), m 55 (by decide), m 114 (by decide)]
  exact h
theorem R_sn.same {X M Y N : XF} (h : R_sn X M) (x : ∀ k, k = 18 ∨ k = 19 → Y k = X k) (m : ∀ k, k = 56 ∨ k = 57 → N k = M k) : R_sn Y N := by
  unfold R_sn
  rw [x 18 (by decide), x 19 (by decide), m 56 (by decide), m 57 (by decide)]
  exact h
theorem R_bt.same {X M Y N : XF} (h : R_bt X M) (x : Y 23 = X 23) (m : N 59 = M 59 ∧ N 60 = M 60) : R_bt Y N := by
  unfold R_bt
  rw [x, m.1, m.2]
  exact h
theorem R_li.same {v zs : Nat} {X M Y N : XF} (h : R_li v zs X M) (x : Y 104 = X 104 ∧ Y 21 = X 21) (m : N 58 = M 58 ∧ N 116 = M 116) : R_li v zs Y N := by
  unfold R_li
  rw [x.1, x.2, m.1, m.2]
  exact h
theorem R_rl.same {z : Nat} {X M Y N : XF} (h : R_rl z X M) (x : ∀ k, k = 25 ∨ k = 26 ∨ k = 27 ∨ k = 28 ∨ k = 29 ∨ k = 31 ∨ k = 32 ∨ k = 33 ∨ k = 34 ∨ k = 105 → Y k = X k) (m : ∀ k, k = 63 ∨ k = 64 ∨ k = 65 ∨ k = 66 ∨ k = 67 ∨ k = 68 ∨ k = 69 ∨ k = 70 ∨ k = 71 ∨ k = 117 → N k = M k) : R_rl z Y N := by
  unfold R_rl
  rw [x 25 (by decide), x 26 (by decide), x 27 (by decide), x 28 (by decide), x 29 (by decide), x 31 (by decide), x 32 (by decide), x 33 (by decide), x 34 (by decide), x 105 (by decide), m 63 (by decide), m 64 (by decide), m 65 (by decide), m 66 (by decide), m 67 (by decide), m 68 (by decide), m 69 (by decide), m 70 (by decide), m 71 (by decide), m 117 (by decide)]
  exact h
theorem R_c0.same {v : Nat} {X M Y N : XF} {J : Nat → Int64} (h : R_c0 v X M J) (x : ∀ k, k = 101 ∨ k = 106 ∨ k = 107 ∨ k = 108 ∨ k = 109 ∨ k = 110 ∨ k = 111 ∨ k = 112 ∨ k = 113 ∨ k = 114 ∨ k = 116 ∨ k = 118 → Y k = X k) (m : ∀ k, k = 101 ∨ k = 102 ∨ k = 103 ∨ k = 104 ∨ k = 105 ∨ k = 106 ∨ k = 107 ∨ k = 108 ∨ k = 109 ∨ k = 110 ∨ k = 112 → N k = M k) : R_c0 v Y N J := by
  unfold R_c0
  rw [x 101 (by decide), x 106 (by decide), x 107 (by decide), x 108 (by decide), x 109 (by decide), x 110 (by decide), x 111 (by decide), x 112 (by decide), x 113 (by decide), x 114 (by decide), x 116 (by decide), x 118 (by decide), m 101 (by decide), m 102 (by decide), m 103 (by decide), m 104 (by decide), m 105 (by decide), m 106 (by decide), m 107 (by decide), m 108 (by decide), m 109 (by decide), m 110 (by decide), m 112 (by decide)]
  exact h
theorem R_c1.same {X M Y N : XF} (h : R_c1 X M) (x : ∀ k, k = 106 ∨ k = 107 ∨ k = 108 ∨ k = 115 ∨ k = 116 ∨ k = 117 ∨ k = 118 → Y k = X k) (m : N 111 = M 111) : R_c1 Y N := by
  unfold R_c1
  rw [x 106 (by decide), x 107 (by decide), x 108 (by decide), x 115 (by decide), x 116 (by decide), x 117 (by decide), x 118 (by decide), m]
  exact h
