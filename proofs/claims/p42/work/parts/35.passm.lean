/-! a second: how the count goes -/
section
variable {X Y Z : XF} {a b : Int32}
theorem cd_106 (X : XF) (a b : Int32) : cd_stay X a b 106 = X 106 := cd_st _ _ _ (by decide)
theorem cd_111 (X : XF) (a b : Int32) : cd_stay X a b 111 0 = a := by unfold cd_stay; split <;> rfl
theorem cd_112 (X : XF) (a b : Int32) : cd_stay X a b 112 0 = b := by unfold cd_stay; split <;> rfl
theorem cd_109 (X : XF) (a b : Int32) : cd_stay X a b 109 0 = X 109 0 + 1 := by unfold cd_stay; split <;> rfl
end
theorem good_of {h s lo hi v b u w : Nat → Int32} {c : Int32} : ∀ n i, (∀ j, i ≤ j → j < i + n → b j = -1 ∨ rl_may (w j) (b j) = 1) → rl_first h s lo hi v b u c n i = -1 → (i + n < 2 ^ 31) → ¬ rl_good h s lo hi v b u w c n i = 0
  | 0, i, _, _, _ => by
    show ¬ (1 : Int32) = 0
    decide
  | n + 1, i, hg, hf, hn => by
    unfold rl_first at hf
    unfold rl_good
    by_cases c1 : rl_met (h i) (s i) (lo i) (hi i) (v i) = 0
    · rw [if_pos c1] at hf ⊢
      by_cases c2 : rl_wv (b i) (u i) c = 0
      · rw [if_pos c2] at hf
        exact absurd hf (nI_nneg (by omega) (by decide))
      · rw [if_neg c2] at hf ⊢
        have hb : ¬ b i = -1 := fun q => c2 (by unfold rl_wv; rw [if_pos q])
        have hm := (hg i (Nat.le_refl _) (by omega)).resolve_left hb
        rw [if_neg (by rw [hm]; decide)]
        exact good_of n (i + 1) (fun j h1 h2 => hg j (by omega) (by omega)) hf (by omega)
    · rw [if_neg c1] at hf ⊢
      exact good_of n (i + 1) (fun j h1 h2 => hg j (by omega) (by omega)) hf (by omega)
/-- how a second changes the count: Y ahead of it, Z behind it, ls told -/
def PR (v : Nat) (Y Z : XF) (ls : List Nat) : Prop :=
  ((ls = [] ∧ Z 118 0 = Y 118 0) ∨ (¬ ls = [] ∧ ¬ Z 118 0 = Y 118 0)) ∧
  (md_ic (Y 118 0) = 0 → Z 118 0 = Y 118 0 ∨ (Y 118 0 = 102 ∧ (Z 118 0 = 120 ∨ Z 118 0 = 111))) ∧
  (¬ md_ic (Y 118 0) = 0 →
    (Z 118 0 = 104 ∧ Z 109 0 = Y 109 0 + 1 ∧ Z 106 0 = Y 106 0 ∧ ((∃ j : Nat, j < 6 ∧ fs_A Y 6 = nI j ∧ Z 111 0 = Y 25 j ∧ Z 112 0 = nI j) ∨ (fs_A Y 6 = -1 ∧ Z 112 0 = -1 ∧ (Z 111 0 = 109 ∨ Z 111 0 = 111 ∧ Y 106 0 = -1 ∧ ¬ Y 107 0 ≤ nI (v + 1))))) ∨
    (Z 118 0 = 115 ∧ ¬ nI (v + 1) - Z 106 0 ≤ Y 108 0) ∨
    (Z 118 0 = 99 ∧ Z 109 0 = Y 109 0 ∧ fs_A Y 6 = -1 ∧ Z 106 0 = Y 106 0 + 1 ∧ nI (v + 1) - (Y 106 0 + 1) ≤ Y 108 0 ∧ ¬ Y 106 0 = -1) ∨
    (Z 118 0 = 102 ∧ Z 109 0 = Y 109 0 ∧ fs_A Y 6 = -1 ∧ Z 106 0 = Y 106 0 + 1 ∧ Y 106 0 = -1 ∧ ¬ inr (Y 107 0) (Y 108 0) (nI (v + 1)) = 0))
/-- what stays right: the count's own numbers, what is told -/
def OK (v : Nat) (Y Z : XF) (ls : List Nat) : Prop :=
  stOk (Z 118 0) ∧ Z 107 = Y 107 ∧ Z 108 = Y 108 ∧ (-21 ≤ (Z 106 0).toInt ∧ (Z 106 0).toInt ≤ v + 1) ∧ (¬ md_ic (Z 118 0) = 0 → (Z 106 0).toInt ≤ -1) ∧ isCh (Z 111 0) ∧ isCh (Z 113 0) ∧ (¬ md_hl (Z 118 0) = 0 → ¬ Z 117 0 = 0 ∧ ¬ inr (Z 107 0) (Z 108 0) (Z 115 0) = 0) ∧
  ltOk ls Y Z ∧ ls.length ≤ 4 ∧ ∀ n b, cnt_ok n (Y 118 0) b → cnt_ok (nxs n ls) (Z 118 0) (b + 1)
/-- what is asked of the state ahead -/
def IN (v : Nat) (Y : XF) : Prop :=
  stOk (Y 118 0) ∧ (-21 ≤ (Y 106 0).toInt ∧ (Y 106 0).toInt ≤ v) ∧ (¬ md_ic (Y 118 0) = 0 → (Y 106 0).toInt ≤ -1) ∧ isCh (Y 111 0) ∧ isCh (Y 113 0) ∧ (¬ md_hl (Y 118 0) = 0 → ¬ Y 117 0 = 0 ∧ ¬ inr (Y 107 0) (Y 108 0) (Y 115 0) = 0) ∧ (∀ j, isCh (Y 25 j)) ∧ (∀ j : Nat, j < 6 → Y 33 j = -1 ∨ rl_may (Y 32 j) (Y 33 j) = 1) ∧ v ≤ 70 ∧ ∃ s : Nat, s < 1000 ∧ Y 108 0 = nI s
section
variable {v : Nat} {Y : XF}
theorem IN.add (h : IN v Y) : (Y 106 0 + 1).toInt = (Y 106 0).toInt + 1 := add1_int (by have := h.2.1; have := h.2.2.2.2.2.2.2.2.1; omega)
theorem lt72 {X : XF} {a b : Int32} : ltOk [72] X (pch 104 (cd_stay X a b)) := lt_one (by show cd_stay X a b 119 0 + 1 = X 119 0 + 1; rw [cd_st _ _ _ (by decide)]) (by show (104 : Int32) = st_of (nI 72); decide)
theorem OK.of {Z : XF} {ls : List Nat} (s' : Int32) (hz : Z 118 0 = s') (hst : stOk s') (h1 : Z 107 = Y 107) (h2 : Z 108 = Y 108) (hat : -21 ≤ (Z 106 0).toInt ∧ (Z 106 0).toInt ≤ v + 1) (hic : md_ic s' = 0 ∨ (Z 106 0).toInt ≤ -1) (c1 : isCh (Z 111 0)) (c3 : isCh (Z 113 0)) (hhl : md_hl s' = 0 ∨ (¬ Z 117 0 = 0 ∧ ¬ inr (Z 107 0) (Z 108 0) (Z 115 0) = 0)) (hl : ltOk ls Y Z) (h4 : ls.length ≤ 4) (hc : ∀ n b, cnt_ok n (Y 118 0) b → cnt_ok (nxs n ls) s' (b + 1)) : OK v Y Z ls := by
  subst hz
  exact ⟨hst, h1, h2, hat, fun q => hic.resolve_left q, c1, c3, fun q => hhl.resolve_left q, hl, h4, hc⟩
/-- held, whatever for -/
theorem held_ok (h : IN v Y) (hic : ¬ md_ic (Y 118 0) = 0) {a b : Int32} (ha : isCh a) (hw : (∃ j : Nat, j < 6 ∧ fs_A Y 6 = nI j ∧ a = Y 25 j ∧ b = nI j) ∨ (fs_A Y 6 = -1 ∧ b = -1 ∧ (a = 109 ∨ a = 111 ∧ Y 106 0 = -1 ∧ ¬ Y 107 0 ≤ nI (v + 1)))) :
    OK v Y (t_A v (h_A Y a b)).1 (t_A v (h_A Y a b)).2 ∧ PR v Y (t_A v (h_A Y a b)).1 (t_A v (h_A Y a b)).2 := by
  obtain ⟨h1, h2, h3, h4, h5, h6, h7, h8, hv, sh, hsh, esh⟩ := h
  have hat := h3 hic
  have hz106 : ∀ s, (pch s (cd_stay Y a b)) 106 0 = Y 106 0 := fun s => by show cd_stay Y a b 106 0 = _; rw [cd_106]
  have c113 := cd_st3 Y a b h5 ha
  have cS : ∀ W : XF, isCh (if W 113 0 = 45 then 111 else W 113 0) ↔ isCh (if W 113 0 = 45 then 111 else W 113 0) := fun _ => Iff.rfl
  have c111 : ∀ W : XF, isCh (W 113 0) → isCh (if W 113 0 = 45 then 111 else W 113 0) := fun W q => by
    split
    · exact ⟨by decide, by decide⟩
    · exact q
  rcases ic_of hic with hs | hs
  · -- from counting
    have eA : h_A Y a b = (pch 104 (cd_stay Y a b), [72]) := if_pos hs
    rw [eA]
    have e104 : md_ic (pch 104 (cd_stay Y a b) 118 0) = 1 := by show md_ic 104 = 1; decide
    by_cases hc : nI (v + 1) - pch 104 (cd_stay Y a b) 106 0 ≤ pch 104 (cd_stay Y a b) 108 0
    · have eT : t_A v (pch 104 (cd_stay Y a b), [72]) = (pch 104 (cd_stay Y a b), [72]) := by
        unfold t_A
        show (if md_ic (pch 104 (cd_stay Y a b) 118 0) = 0 then _ else _) = _
        rw [if_neg (by rw [e104]; decide)]
        exact if_pos hc
      rw [eT]
      show OK v Y (pch 104 (cd_stay Y a b)) [72] ∧ PR v Y (pch 104 (cd_stay Y a b)) [72]
      refine ⟨OK.of 104 rfl (Or.inr (Or.inr (Or.inl rfl))) (cd_st _ _ _ (by decide)) (cd_st _ _ _ (by decide)) (by rw [hz106]; omega) (Or.inr (by rw [hz106]; omega)) (by show isCh (cd_stay Y a b 111 0); rw [cd_111]; exact ha) c113 (Or.inl (by decide)) lt72 (by decide) (fun n b0 hn => ?_), ?_⟩
      · rw [hs] at hn
        have k1 : ci 104 = 1 := by decide
        have k2 : ci 99 = 1 := by decide
        exact cnt_one (s := 99) (c := 72) (by decide) hn (by decide) (by decide) (by omega)
      · refine ⟨Or.inr ⟨by decide, by rw [hs]; show ¬ (104 : Int32) = 99; decide⟩, fun q => absurd q hic, fun _ => Or.inl ⟨rfl, ?_, hz106 104, ?_⟩⟩
        · show cd_stay Y a b 109 0 = _; rw [cd_109]
        · show (∃ j : Nat, j < 6 ∧ fs_A Y 6 = nI j ∧ cd_stay Y a b 111 0 = Y 25 j ∧ cd_stay Y a b 112 0 = nI j) ∨ (fs_A Y 6 = -1 ∧ cd_stay Y a b 112 0 = -1 ∧ (cd_stay Y a b 111 0 = 109 ∨ cd_stay Y a b 111 0 = 111 ∧ Y 106 0 = -1 ∧ ¬ Y 107 0 ≤ nI (v + 1)))
          rw [cd_111, cd_112]
          exact hw
    · obtain ⟨w, hw9⟩ : ∃ w : Int32, w = (if pch 104 (cd_stay Y a b) 113 0 = 45 then 111 else pch 104 (cd_stay Y a b) 113 0) := ⟨_, rfl⟩
      have eT : t_A v (pch 104 (cd_stay Y a b), [72]) = (pch 115 (si (si (pch 104 (cd_stay Y a b)) 111 w) 112 (pch 104 (cd_stay Y a b) 114 0)), [72] ++ [83]) := by
        rw [hw9]
        unfold t_A
        show (if md_ic (pch 104 (cd_stay Y a b) 118 0) = 0 then _ else _) = _
        rw [if_neg (by rw [e104]; decide)]
        exact if_neg hc
      rw [eT]
      show OK v Y (pch 115 (si (si (pch 104 (cd_stay Y a b)) 111 w) 112 (pch 104 (cd_stay Y a b) 114 0))) [72, 83] ∧ PR v Y (pch 115 (si (si (pch 104 (cd_stay Y a b)) 111 w) 112 (pch 104 (cd_stay Y a b) 114 0))) [72, 83]
      refine ⟨OK.of 115 rfl (Or.inr (Or.inr (Or.inr (Or.inl rfl)))) (cd_st _ _ _ (by decide)) (cd_st _ _ _ (by decide)) (by show -21 ≤ (pch 104 (cd_stay Y a b) 106 0).toInt ∧ (pch 104 (cd_stay Y a b) 106 0).toInt ≤ v + 1; rw [hz106]; omega) (Or.inl (by decide)) (by show isCh w; rw [hw9]; exact c111 _ c113) c113 (Or.inl (by decide)) (lt_add lt72 rfl (by show (115 : Int32) = st_of (nI 83); decide)) (by decide) (fun n b0 hn => ?_), ?_⟩
      · rw [hs] at hn
        have k1 : ci 104 = 1 := by decide
        have k2 : ci 99 = 1 := by decide
        have k3 : ci 115 = 0 := by decide
        have q := cnt_one (s := 99) (s' := 104) (c := 72) (b' := b0 + 1) (by decide) hn (by decide) (by decide) (by omega)
        exact cnt_one (s := 104) (c := 83) (by decide) q (by decide) (by decide) (by omega)
      · refine ⟨Or.inr ⟨by decide, by rw [hs]; show ¬ (115 : Int32) = 99; decide⟩, fun q => absurd q hic, fun _ => Or.inr (Or.inl ⟨rfl, ?_⟩)⟩
        rw [show pch 104 (cd_stay Y a b) 108 0 = Y 108 0 by show cd_stay Y a b 108 0 = _; rw [cd_st _ _ _ (by decide)]] at hc
        exact hc
  · have eA : h_A Y a b = (cd_stay Y a b, []) := if_neg (by rw [hs]; decide)
    rw [eA]
    have e118 : cd_stay Y a b 118 0 = 104 := by rw [cd_st _ _ _ (by decide)]; exact hs
    have h106 : cd_stay Y a b 106 0 = Y 106 0 := by rw [cd_106]
    have h108 : cd_stay Y a b 108 0 = Y 108 0 := by rw [cd_st _ _ _ (by decide)]
    have e104 : md_ic (cd_stay Y a b 118 0) = 1 := by rw [e118]; decide
    by_cases hc : nI (v + 1) - cd_stay Y a b 106 0 ≤ cd_stay Y a b 108 0
    · have eT : t_A v (cd_stay Y a b, []) = (cd_stay Y a b, []) := by
        unfold t_A
        show (if md_ic (cd_stay Y a b 118 0) = 0 then _ else _) = _
        rw [if_neg (by rw [e104]; decide)]
        exact if_pos hc
      rw [eT]
      show OK v Y (cd_stay Y a b) [] ∧ PR v Y (cd_stay Y a b) []
      refine ⟨OK.of 104 e118 (Or.inr (Or.inr (Or.inl rfl))) (cd_st _ _ _ (by decide)) (cd_st _ _ _ (by decide)) (by rw [h106]; omega) (Or.inr (by rw [h106]; omega)) (by rw [cd_111]; exact ha) c113 (Or.inl (by decide)) (lt_nil (by rw [cd_st _ _ _ (by decide)]) (by rw [hs]; exact e118)) (by decide) (fun n b0 hn => ?_), ?_⟩
      · rw [hs] at hn
        obtain ⟨q1, q2, q3, q4⟩ := hn
        exact ⟨q1, q2, q3, by show n 59 + ci 104 ≤ b0 + 1; omega⟩
      · refine ⟨Or.inl ⟨rfl, by rw [hs]; exact e118⟩, fun q => absurd q hic, fun _ => Or.inl ⟨e118, ?_, h106, ?_⟩⟩
        · show cd_stay Y a b 109 0 = _; rw [cd_109]
        · show (∃ j : Nat, j < 6 ∧ fs_A Y 6 = nI j ∧ cd_stay Y a b 111 0 = Y 25 j ∧ cd_stay Y a b 112 0 = nI j) ∨ (fs_A Y 6 = -1 ∧ cd_stay Y a b 112 0 = -1 ∧ (cd_stay Y a b 111 0 = 109 ∨ cd_stay Y a b 111 0 = 111 ∧ Y 106 0 = -1 ∧ ¬ Y 107 0 ≤ nI (v + 1)))
          rw [cd_111, cd_112]
          exact hw
    · obtain ⟨w, hw9⟩ : ∃ w : Int32, w = (if cd_stay Y a b 113 0 = 45 then 111 else cd_stay Y a b 113 0) := ⟨_, rfl⟩
      have eT : t_A v (cd_stay Y a b, []) = (pch 115 (si (si (cd_stay Y a b) 111 w) 112 (cd_stay Y a b 114 0)), [] ++ [83]) := by
        rw [hw9]
        unfold t_A
        show (if md_ic (cd_stay Y a b 118 0) = 0 then _ else _) = _
        rw [if_neg (by rw [e104]; decide)]
        exact if_neg hc
      rw [eT]
      show OK v Y (pch 115 (si (si (cd_stay Y a b) 111 w) 112 (cd_stay Y a b 114 0))) [83] ∧ PR v Y (pch 115 (si (si (cd_stay Y a b) 111 w) 112 (cd_stay Y a b 114 0))) [83]
      refine ⟨OK.of 115 rfl (Or.inr (Or.inr (Or.inr (Or.inl rfl)))) (cd_st _ _ _ (by decide)) (cd_st _ _ _ (by decide)) (by show -21 ≤ (cd_stay Y a b 106 0).toInt ∧ (cd_stay Y a b 106 0).toInt ≤ v + 1; rw [h106]; omega) (Or.inl (by decide)) (by show isCh w; rw [hw9]; exact c111 _ c113) c113 (Or.inl (by decide)) (lt_one (by show cd_stay Y a b 119 0 + 1 = _; rw [cd_st _ _ _ (by decide)]) (by show (115 : Int32) = st_of (nI 83); decide)) (by decide) (fun n b0 hn => ?_), ?_⟩
      · rw [hs] at hn
        have k1 : ci 104 = 1 := by decide
        have k3 : ci 115 = 0 := by decide
        exact cnt_one (s := 104) (c := 83) (by decide) hn (by decide) (by decide) (by omega)
      · refine ⟨Or.inr ⟨by decide, by rw [hs]; show ¬ (115 : Int32) = 104; decide⟩, fun q => absurd q hic, fun _ => Or.inr (Or.inl ⟨rfl, ?_⟩)⟩
        rw [h108] at hc
        exact hc
theorem nxs_snoc : ∀ (a : List Nat) (n : Nat → Nat) (c : Nat), nxs n (a ++ [c]) = nx (nxs n a) c
  | [], _, _ => rfl
  | d :: a, n, c => nxs_snoc a (nx n d) c
theorem go1_ok (hic : ¬ md_ic (Y 118 0) = 0) : (go_1 Y).1 118 0 = 99 ∧ ltOk (go_1 Y).2 Y (go_1 Y).1 ∧ (go_1 Y).2.length ≤ 1 ∧ (∀ n b, cnt_ok n (Y 118 0) b → cnt_ok (nxs n (go_1 Y).2) 99 (b + 1)) ∧ (((go_1 Y).2 = [] ∧ Y 118 0 = 99) ∨ (¬ (go_1 Y).2 = [] ∧ Y 118 0 = 104)) := by
  rcases ic_of hic with hs | hs
  · have e : go_1 Y = (Y, []) := if_neg (by rw [hs]; decide)
    rw [e]
    refine ⟨hs, lt_nil rfl rfl, Nat.zero_le 1, fun n b h => ?_, Or.inl ⟨rfl, hs⟩⟩
    rw [hs] at h
    obtain ⟨q1, q2, q3, q4⟩ := h
    exact ⟨q1, q2, q3, by show n 59 + ci 99 ≤ b + 1; omega⟩
  · have e : go_1 Y = (pch 99 Y, [71]) := if_pos hs
    rw [e]
    refine ⟨rfl, lt_one rfl (by show (99 : Int32) = st_of (nI 71); decide), Nat.le_refl 1, fun n b h => ?_, Or.inr ⟨by show ¬ [71] = []; decide, hs⟩⟩
    rw [hs] at h
    have k1 : ci 104 = 1 := by decide
    have k2 : ci 99 = 1 := by decide
    exact cnt_one (s := 104) (c := 71) (by decide) h (by decide) (by decide) (by omega)
theorem at_m1 (h : IN v Y) : (Y 106 0 + 1 = 0) ↔ Y 106 0 = -1 := by
  have e := h.add
  constructor
  · intro q
    rw [q] at e
    have z : (0 : Int32).toInt = 0 := rfl
    refine Int32.toInt_inj.mp ?_
    have z1 : (-1 : Int32).toInt = -1 := rfl
    omega
  · intro q
    rw [q]; rfl
theorem go_ok (h : IN v Y) (hic : ¬ md_ic (Y 118 0) = 0) (hfs : fs_A Y 6 = -1) (hw : Y 106 0 = -1 → Y 107 0 ≤ nI (v + 1)) : OK v Y (t_A v (go_A v 6 Y)).1 (t_A v (go_A v 6 Y)).2 ∧ PR v Y (t_A v (go_A v 6 Y)).1 (t_A v (go_A v 6 Y)).2 := by
  have hadd := h.add
  have hm1 := at_m1 h
  obtain ⟨h1, h2, h3, h4, h5, h6, h7, h8, hv, sh, hsh, esh⟩ := h
  have hat := h3 hic
  obtain ⟨g1, g2, g3, g4, g5⟩ := go1_ok hic
  generalize hG : (go_1 Y).1 = W at g1 g2
  generalize hl : (go_1 Y).2 = l1 at g2 g3 g4 g5
  have wk : ∀ {k : Nat}, k ≠ 118 ∧ k ≠ 119 → W k = Y k := fun hk => by rw [← hG]; exact go_1_k Y hk
  have w106 : W 106 = Y 106 := wk (by decide)
  have k99 : ci 99 = 1 := by decide
  have k115 : ci 115 = 0 := by decide
  have k102 : ci 102 = 0 := by decide
  have hne : ∀ (s' : Int32) (c : Nat) (a : List Nat), ¬ a ++ [c] = [] := fun _ c a => by simp
  -- the count goes on, called off or not
  have on : ∀ (hgo : go_A v 6 Y = (go_2 W, l1)) (hz : Y 106 0 + 1 = 0 → ¬ nI (v + 1) - (Y 106 0 + 1) ≤ Y 108 0), OK v Y (t_A v (go_A v 6 Y)).1 (t_A v (go_A v 6 Y)).2 ∧ PR v Y (t_A v (go_A v 6 Y)).1 (t_A v (go_A v 6 Y)).2 := by
    intro hgo hz
    rw [hgo]
    have e118 : go_2 W 118 0 = 99 := g1
    have e106 : go_2 W 106 0 = Y 106 0 + 1 := by show W 106 0 + 1 = _; rw [w106]
    have e108 : go_2 W 108 0 = Y 108 0 := by show W 108 0 = _; rw [wk (by decide)]
    have e109 : go_2 W 109 0 = Y 109 0 := by show W 109 0 = _; rw [wk (by decide)]
    have c111 : isCh (go_2 W 111 0) := by show isCh (W 111 0); rw [wk (by decide)]; exact h4
    have c113 : isCh (go_2 W 113 0) := by show isCh (W 113 0); rw [wk (by decide)]; exact h5
    have lt1 : ltOk l1 Y (go_2 W) := g2.to rfl rfl
    by_cases hc : nI (v + 1) - go_2 W 106 0 ≤ go_2 W 108 0
    · have eT : t_A v (go_2 W, l1) = (go_2 W, l1) := by
        unfold t_A
        show (if md_ic (go_2 W 118 0) = 0 then _ else _) = _
        rw [if_neg (by rw [e118]; decide)]
        exact if_pos hc
      rw [eT]
      show OK v Y (go_2 W) l1 ∧ PR v Y (go_2 W) l1
      rw [e106, e108] at hc
      have hn0 : ¬ Y 106 0 = -1 := fun q => hz (hm1.mpr q) hc
      have hn1 : (Y 106 0).toInt ≠ -1 := fun q => hn0 (Int32.toInt_inj.mp q)
      refine ⟨OK.of 99 e118 (Or.inr (Or.inl rfl)) (wk (by decide)) (wk (by decide)) (by rw [e106]; omega) (Or.inr (by rw [e106]; omega)) c111 c113 (Or.inl (by decide)) lt1 (by omega) g4, ?_⟩
      refine ⟨?_, fun q => absurd q hic, fun _ => Or.inr (Or.inr (Or.inl ⟨e118, e109, hfs, e106, hc, hn0⟩))⟩
      rcases g5 with ⟨q1, q2⟩ | ⟨q1, q2⟩
      · exact Or.inl ⟨q1, by rw [e118, q2]⟩
      · exact Or.inr ⟨q1, by rw [e118, q2]; decide⟩
    · obtain ⟨w, hw9⟩ : ∃ w : Int32, w = (if go_2 W 113 0 = 45 then 111 else go_2 W 113 0) := ⟨_, rfl⟩
      have eT : t_A v (go_2 W, l1) = (pch 115 (si (si (go_2 W) 111 w) 112 (go_2 W 114 0)), l1 ++ [83]) := by
        rw [hw9]
        unfold t_A
        show (if md_ic (go_2 W 118 0) = 0 then _ else _) = _
        rw [if_neg (by rw [e118]; decide)]
        exact if_neg hc
      rw [eT]
      show OK v Y (pch 115 (si (si (go_2 W) 111 w) 112 (go_2 W 114 0))) (l1 ++ [83]) ∧ PR v Y (pch 115 (si (si (go_2 W) 111 w) 112 (go_2 W 114 0))) (l1 ++ [83])
      refine ⟨OK.of 115 rfl (Or.inr (Or.inr (Or.inr (Or.inl rfl)))) (wk (by decide)) (wk (by decide)) (by show -21 ≤ (go_2 W 106 0).toInt ∧ (go_2 W 106 0).toInt ≤ v + 1; rw [e106]; omega) (Or.inl (by decide)) (by
        show isCh w
        rw [hw9]
        split
        · exact ⟨by decide, by decide⟩
        · exact c113) c113 (Or.inl (by decide)) (lt_add lt1 rfl (by show (115 : Int32) = st_of (nI 83); decide)) (by rw [List.length_append]; show l1.length + 1 ≤ 4; omega) (fun n b0 hn => ?_), ?_⟩
      · rw [nxs_snoc]
        exact cnt_one (s := 99) (c := 83) (by decide) (g4 n b0 hn) (by decide) (by decide) (by omega)
      · refine ⟨Or.inr ⟨hne 0 83 l1, ?_⟩, fun q => absurd q hic, fun _ => Or.inr (Or.inl ⟨rfl, ?_⟩)⟩
        · show ¬ (115 : Int32) = Y 118 0
          rcases g5 with ⟨-, q2⟩ | ⟨-, q2⟩ <;> rw [q2] <;> decide
        · rw [e108] at hc
          exact hc
  by_cases c0 : Y 106 0 + 1 = 0
  · have hm := hm1.mp c0
    by_cases c1 : inr (Y 107 0) (Y 108 0) (nI (v + 1)) = 0
    · refine on ?_ (fun _ q => ?_)
      · unfold go_A
        rw [if_pos c0, if_pos c1, hG, hl]
      · rw [c0, Int32.sub_zero] at q
        unfold inr at c1
        rw [if_neg (Int32.not_lt.mpr (hw hm)), if_neg (Int32.not_lt.mpr q)] at c1
        exact absurd c1 (by decide)
    · have hgo : go_A v 6 Y = (go_3 v (go_gd Y 6) (go_2 W), l1 ++ [70]) := by
        unfold go_A
        rw [if_pos c0, if_neg c1, hG, hl]
      rw [hgo]
      have eT : t_A v (go_3 v (go_gd Y 6) (go_2 W), l1 ++ [70]) = (go_3 v (go_gd Y 6) (go_2 W), l1 ++ [70]) := by
        unfold t_A
        exact if_pos (show md_ic 102 = 0 by decide)
      rw [eT]
      show OK v Y (go_3 v (go_gd Y 6) (go_2 W)) (l1 ++ [70]) ∧ PR v Y (go_3 v (go_gd Y 6) (go_2 W)) (l1 ++ [70])
      have e106 : go_3 v (go_gd Y 6) (go_2 W) 106 0 = Y 106 0 + 1 := by show W 106 0 + 1 = _; rw [w106]
      have e107 : go_3 v (go_gd Y 6) (go_2 W) 107 = Y 107 := wk (by decide)
      have e108 : go_3 v (go_gd Y 6) (go_2 W) 108 = Y 108 := wk (by decide)
      refine ⟨OK.of 102 rfl (Or.inr (Or.inr (Or.inr (Or.inr (Or.inl rfl))))) e107 e108 (by rw [e106]; omega) (Or.inl (by decide)) (by show isCh (W 111 0); rw [wk (by decide)]; exact h4) (by show isCh (W 113 0); rw [wk (by decide)]; exact h5) (Or.inr ⟨?_, ?_⟩) (lt_add (X' := W) g2 rfl (by show (102 : Int32) = st_of (nI 70); decide)) (by rw [List.length_append]; show l1.length + 1 ≤ 4; omega) (fun n b0 hn => ?_), ?_⟩
      · exact good_of 6 0 (fun j _ hj => h8 j (by omega)) hfs (by decide)
      · rw [e107, e108]
        exact c1
      · rw [nxs_snoc]
        exact cnt_one (s := 99) (c := 70) (by decide) (g4 n b0 hn) (by decide) (by decide) (by omega)
      · refine ⟨Or.inr ⟨hne 0 70 l1, ?_⟩, fun q => absurd q hic, fun _ => Or.inr (Or.inr (Or.inr ⟨rfl, ?_, hfs, e106, hm, c1⟩))⟩
        · show ¬ (102 : Int32) = Y 118 0
          rcases g5 with ⟨-, q2⟩ | ⟨-, q2⟩ <;> rw [q2] <;> decide
        · show W 109 0 = Y 109 0
          rw [wk (by decide)]
  · refine on ?_ (fun q => absurd q c0)
    unfold go_A
    rw [if_neg c0, hG, hl]
theorem same_ok {Z : XF} (s' : Int32) (hz : Z 118 0 = s') (hy : Y 118 0 = s') (hst : stOk s') (hi : md_ic s' = 0) (h1 : Z 107 = Y 107) (h2 : Z 108 = Y 108) (h9 : Z 119 0 = Y 119 0) (hat : -21 ≤ (Z 106 0).toInt ∧ (Z 106 0).toInt ≤ v + 1) (c1 : isCh (Z 111 0)) (c3 : isCh (Z 113 0)) (hhl : md_hl s' = 0 ∨ (¬ Z 117 0 = 0 ∧ ¬ inr (Z 107 0) (Z 108 0) (Z 115 0) = 0)) : OK v Y Z [] ∧ PR v Y Z [] := by
  refine ⟨OK.of s' hz hst h1 h2 hat (Or.inl hi) c1 c3 hhl (lt_nil h9 (hz.trans hy.symm)) (by decide) (fun n b hn => ?_), Or.inl ⟨rfl, hz.trans hy.symm⟩, fun _ => Or.inl (hz.trans hy.symm), fun q => absurd (by rw [hy]; exact hi) q⟩
  rw [hy] at hn
  obtain ⟨q1, q2, q3, q4⟩ := hn
  exact ⟨q1, q2, q3, by show n 59 + ci s' ≤ b + 1; omega⟩
theorem fly_end {Z : XF} {c : Nat} (s' : Int32) (hc : (c = 88 ∧ s' = 120) ∨ (c = 79 ∧ s' = 111)) (hs : Y 118 0 = 102) (hz : Z 118 0 = s') (h1 : Z 107 = Y 107) (h2 : Z 108 = Y 108) (h9 : Z 119 0 = Y 119 0 + 1) (hat : -21 ≤ (Z 106 0).toInt ∧ (Z 106 0).toInt ≤ v + 1) (c1 : isCh (Z 111 0)) (c3 : isCh (Z 113 0)) (hhl : ¬ Z 117 0 = 0 ∧ ¬ inr (Z 107 0) (Z 108 0) (Z 115 0) = 0) : OK v Y Z [c] ∧ PR v Y Z [c] := by
  have k102 : ci 102 = 0 := by decide
  have k120 : ci 120 = 0 := by decide
  have k111 : ci 111 = 0 := by decide
  rcases hc with ⟨rfl, rfl⟩ | ⟨rfl, rfl⟩
  · refine ⟨OK.of 120 hz (Or.inr (Or.inr (Or.inr (Or.inr (Or.inr (Or.inl rfl)))))) h1 h2 hat (Or.inl (by decide)) c1 c3 (Or.inr hhl) (lt_one h9 (by rw [hz]; decide)) (by decide) (fun n b hn => ?_), Or.inr ⟨by decide, by rw [hz, hs]; decide⟩, fun _ => Or.inr ⟨hs, Or.inl hz⟩, fun q => absurd (by rw [hs]; decide) q⟩
    rw [hs] at hn
    exact cnt_one (s := 102) (c := 88) (by decide) hn (by decide) (by decide) (by omega)
  · refine ⟨OK.of 111 hz (Or.inr (Or.inr (Or.inr (Or.inr (Or.inr (Or.inr rfl)))))) h1 h2 hat (Or.inl (by decide)) c1 c3 (Or.inr hhl) (lt_one h9 (by rw [hz]; decide)) (by decide) (fun n b hn => ?_), Or.inr ⟨by decide, by rw [hz, hs]; decide⟩, fun _ => Or.inr ⟨hs, Or.inr hz⟩, fun q => absurd (by rw [hs]; decide) q⟩
    rw [hs] at hn
    exact cnt_one (s := 102) (c := 79) (by decide) hn (by decide) (by decide) (by omega)
theorem fly_ok (h : IN v Y) (hl : ¬ md_hl (Y 118 0) = 0) : OK v Y (fl_A Y).1 (fl_A Y).2 ∧ PR v Y (fl_A Y).1 (fl_A Y).2 := by
  have hadd := h.add
  obtain ⟨h1, h2, h3, h4, h5, h6, h7, h8, hv, -⟩ := h
  have hg := h6 hl
  by_cases c0 : Y 118 0 = 102
  · have ch : ∀ c : Int32, c = 100 ∨ c = 114 → isCh c := fun c q => by rcases q with rfl | rfl <;> exact ⟨by decide, by decide⟩
    have dA : ∀ c : Int32, c = 100 ∨ c = 114 → OK v Y (ds_A (fl_2 Y) c).1 (ds_A (fl_2 Y) c).2 ∧ PR v Y (ds_A (fl_2 Y) c).1 (ds_A (fl_2 Y) c).2 := fun c q => by
      show OK v Y (pch 120 (si (si (fl_2 Y) 111 c) 112 (-1))) [88] ∧ PR v Y (pch 120 (si (si (fl_2 Y) 111 c) 112 (-1))) [88]
      exact fly_end 120 (Or.inl ⟨rfl, rfl⟩) c0 rfl rfl rfl rfl (by show -21 ≤ (Y 106 0 + 1).toInt ∧ (Y 106 0 + 1).toInt ≤ v + 1; omega) (ch c q) h5 hg
    unfold fl_A
    rw [if_pos c0]
    by_cases c1 : fl_far Y = 0
    · rw [if_pos c1]
      by_cases c2 : fl_un Y < 3
      · rw [if_pos c2]
        by_cases c3 : Y 106 0 + 1 < 60
        · rw [if_pos c3]
          show OK v Y (fl_2 Y) [] ∧ PR v Y (fl_2 Y) []
          exact same_ok 102 c0 c0 (Or.inr (Or.inr (Or.inr (Or.inr (Or.inl rfl))))) (by decide) rfl rfl rfl (by show -21 ≤ (Y 106 0 + 1).toInt ∧ (Y 106 0 + 1).toInt ≤ v + 1; omega) h4 h5 (Or.inr hg)
        · rw [if_neg c3]
          show OK v Y (pch 111 (fl_2 Y)) [79] ∧ PR v Y (pch 111 (fl_2 Y)) [79]
          exact fly_end 111 (Or.inr ⟨rfl, rfl⟩) c0 rfl rfl rfl rfl (by show -21 ≤ (Y 106 0 + 1).toInt ∧ (Y 106 0 + 1).toInt ≤ v + 1; omega) h4 h5 hg
      · rw [if_neg c2]
        exact dA 114 (Or.inr rfl)
    · rw [if_neg c1]
      exact dA 100 (Or.inl rfl)
  · unfold fl_A
    rw [if_neg c0]
    show OK v Y (fl_1 Y) [] ∧ PR v Y (fl_1 Y) []
    have hst := h1
    refine same_ok (Y 118 0) rfl rfl h1 ?_ rfl rfl rfl (by show -21 ≤ (Y 106 0 + 1).toInt ∧ (Y 106 0 + 1).toInt ≤ v + 1; omega) h4 h5 (Or.inr hg)
    unfold stOk at hst
    rcases hst with q | q | q | q | q | q | q <;> rw [q] at hl ⊢ <;> first | decide | exact absurd (by decide) hl
theorem sc4_ok (h : IN v Y) (z5 : Nat) : OK v Y (sc_4 v 6 z5 5 Y).1 (sc_4 v 6 z5 5 Y).2 ∧ PR v Y (sc_4 v 6 z5 5 Y).1 (sc_4 v 6 z5 5 Y).2 := by
  unfold sc_4
  by_cases hic : md_ic (Y 118 0) = 0
  · rw [if_pos hic]
    by_cases hl : md_hl (Y 118 0) = 0
    · rw [if_pos hl]
      obtain ⟨h1, h2, h3, h4, h5, h6, h7, h8, hv, -⟩ := h
      exact same_ok (Y 118 0) rfl rfl h1 hic rfl rfl rfl (show -21 ≤ (Y 106 0).toInt ∧ (Y 106 0).toInt ≤ v + 1 by omega) h4 h5 (Or.inl hl)
    · rw [if_neg hl]
      exact fly_ok h hl
  · rw [if_neg hic]
    unfold cn_A cn_1
    by_cases c0 : fs_A Y 6 = -1
    · rw [if_pos c0]
      by_cases c1 : kp_A z5 5 Y = 0
      · rw [if_pos c1]
        by_cases c2 : Y 106 0 = -1
        · rw [if_pos c2]
          by_cases c3 : Y 107 0 ≤ nI (v + 1)
          · rw [if_pos c3]
            exact go_ok h hic c0 (fun _ => c3)
          · rw [if_neg c3]
            exact held_ok h hic ⟨by decide, by decide⟩ (Or.inr ⟨c0, rfl, Or.inr ⟨rfl, c2, c3⟩⟩)
        · rw [if_neg c2]
          exact go_ok h hic c0 (fun q => absurd q c2)
      · rw [if_neg c1]
        exact held_ok h hic ⟨by decide, by decide⟩ (Or.inr ⟨c0, rfl, Or.inl rfl⟩)
    · rw [if_neg c0]
      have hj : ∃ j : Nat, j < 6 ∧ fs_A Y 6 = nI j := by
        rcases rl_first_cases (Y 31) (Y 29) (Y 27) (Y 28) (Y 30) (Y 33) (Y 34) (Y 106 0) 6 0 with q | ⟨j, -, hj, ej⟩
        · exact absurd q c0
        · exact ⟨j, by omega, ej⟩
      obtain ⟨j, hj, ej⟩ := hj
      have hcl : (fs_A Y 6).toNatClampNeg = j := by rw [ej]; exact nI_clamp (by omega)
      rw [hcl, ej]
      exact held_ok h hic (h.2.2.2.2.2.2.1 j) (Or.inl ⟨j, hj, ej, rfl, rfl⟩)
end
