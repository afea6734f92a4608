/-! how much is told; many seconds -/
def ci (s : Int32) : Nat := if md_ic s = 0 then 0 else 1
theorem ci_le (s : Int32) : ci s ≤ 1 := by unfold ci; split <;> omega
theorem le2 {n k : Nat} (h1 : n ≤ 1) (h2 : k ≤ 1) : n + k ≤ 2 := by omega
theorem sc_pot (v z z5 z8 : Nat) (X : XF) : (sc_A v z z5 z8 X).2.length + ci ((sc_A v z z5 z8 X).1 118 0) ≤ 1 + ci (X 118 0) := by
  have e0 : sc_3 z (sc_2 z8 (sc_1 X)) 118 = X 118 := sc_13 _ _ _ (by decide)
  show (sc_4 v z z5 z8 (sc_3 z (sc_2 z8 (sc_1 X)))).2.length + ci ((sc_5 v (sc_4 v z z5 z8 (sc_3 z (sc_2 z8 (sc_1 X)))).1) 118 0) ≤ _
  rw [sc_5_k _ _ (by decide), ← e0]
  generalize sc_3 z (sc_2 z8 (sc_1 X)) = Y
  have one : ∀ s, ¬ md_ic s = 0 → ci s = 1 := fun s h => if_neg h
  have zero : ∀ s, md_ic s = 0 → ci s = 0 := fun s h => if_pos h
  unfold sc_4
  by_cases hic : md_ic (Y 118 0) = 0
  · rw [if_pos hic]
    by_cases hl : md_hl (Y 118 0) = 0
    · rw [if_pos hl]
      show 0 + ci (Y 118 0) ≤ 1 + ci (Y 118 0)
      omega
    · rw [if_neg hl, zero _ hic]
      have key : (fl_A Y).2.length ≤ 1 ∧ ci ((fl_A Y).1 118 0) = 0 := by
        unfold fl_A ds_A
        repeat' split
        · exact ⟨Nat.zero_le 1, zero _ hic⟩
        · exact ⟨Nat.le_refl 1, zero _ (show md_ic 111 = 0 by decide)⟩
        · exact ⟨Nat.le_refl 1, zero _ (show md_ic 120 = 0 by decide)⟩
        · exact ⟨Nat.le_refl 1, zero _ (show md_ic 120 = 0 by decide)⟩
        · exact ⟨Nat.zero_le 1, zero _ hic⟩
      omega
  · rw [if_neg hic, one _ hic]
    have hA : ∀ a b, (h_A Y a b).2.length + ci ((h_A Y a b).1 118 0) ≤ 2 := by
      intro a b
      unfold h_A
      split
      · exact le2 (Nat.le_refl 1) (ci_le _)
      · exact le2 (Nat.zero_le 1) (ci_le _)
    have g1 : (go_1 Y).2.length ≤ 1 := by
      unfold go_1
      split
      · exact Nat.le_refl 1
      · exact Nat.zero_le 1
    have gA : (go_A v z Y).2.length + ci ((go_A v z Y).1 118 0) ≤ 2 := by
      unfold go_A
      split
      · split
        · exact le2 g1 (ci_le _)
        · show ((go_1 Y).2 ++ [70]).length + ci 102 ≤ 2
          rw [List.length_append]
          have : ci 102 = 0 := by decide
          show (go_1 Y).2.length + 1 + _ ≤ 2
          omega
      · exact le2 g1 (ci_le _)
    have c1 : (cn_1 v z z5 z8 Y).2.length + ci ((cn_1 v z z5 z8 Y).1 118 0) ≤ 2 := by
      unfold cn_1
      split
      · split
        · split
          · split
            · exact gA
            · exact hA _ _
          · exact gA
        · exact hA _ _
      · exact hA _ _
    unfold cn_A t_A
    by_cases h2 : md_ic ((cn_1 v z z5 z8 Y).1 118 0) = 0
    · rw [if_pos h2]; exact c1
    · rw [if_neg h2]
      by_cases h3 : nI (v + 1) - (cn_1 v z z5 z8 Y).1 106 0 ≤ (cn_1 v z z5 z8 Y).1 108 0
      · rw [if_pos h3]; exact c1
      · rw [if_neg h3]
        rw [one _ h2] at c1
        show ((cn_1 v z z5 z8 Y).2 ++ [83]).length + ci 115 ≤ 2
        rw [List.length_append]
        have : ci 115 = 0 := by decide
        show (cn_1 v z z5 z8 Y).2.length + 1 + _ ≤ 2
        omega
/-- a text's room -/
def okT (s : TS) : Prop := 16 ≤ s.2.1 ∧ s.1.length ≤ s.2.1 ∧ (s.2.1 = 16 ∨ s.2.1 ≤ 2 * s.1.length) ∧ s.2.2.2 ≤ 2 * s.2.1 ∧ 16 * 2 ^ s.2.2.1 ≤ s.2.1
theorem okT.app {s : TS} (h : okT s) {t : List Nat} (ht : t.length ≤ 16) : okT (apT s t) := by
  obtain ⟨h1, h2, h3, h4, h5⟩ := h
  have l : (s.1 ++ t).length = s.1.length + t.length := List.length_append
  unfold okT apT ncap gcl gsl
  by_cases hm : (s.1 ++ t).length ≤ s.2.1
  · simp only [if_pos hm]
    exact ⟨h1, hm, by omega, by omega, by simpa using h5⟩
  · simp only [if_neg hm]
    refine ⟨by omega, by omega, by omega, by omega, ?_⟩
    rw [Nat.pow_succ]
    omega
theorem okT.lg {s : TS} (h : okT s) {v c : Nat} (hv : v < 1000000) : okT (lgT s v c) := by
  have h6 := sb_dg6 hv
  exact ((h.app (by rw [decL_len]; omega)).app (by show 1 ≤ 16; omega)).app (by show 1 ≤ 16; omega)
theorem okT.ls {v : Nat} (hv : v < 1000000) : ∀ (ls : List Nat) {s : TS}, okT s → okT (lsT s v ls)
  | [], _, h => h
  | _ :: cs, _, h => okT.ls hv cs (h.lg hv)
theorem ls_len {v : Nat} (hv : v < 1000000) : ∀ (ls : List Nat) (s : TS), (lsT s v ls).1.length ≤ s.1.length + 8 * ls.length
  | [], s => by show s.1.length ≤ s.1.length + 8 * 0; omega
  | c :: cs, s => by
    have ih := ls_len hv cs (lgT s v c)
    have h6 := sb_dg6 hv
    have e : (lgT s v c).1.length = s.1.length + sb_dg v + 1 + 1 := by
      show (s.1 ++ decL v ++ [c] ++ [59]).length = _
      rw [List.length_append, List.length_append, List.length_append, decL_len]
      rfl
    show (lsT (lgT s v c) v cs).1.length ≤ s.1.length + 8 * (cs.length + 1)
    omega
theorem ls_snoc (v c : Nat) : ∀ (a : List Nat) (s : TS), lsT s v (a ++ [c]) = lgT (lsT s v a) v c
  | [], _ => rfl
  | d :: a, s => ls_snoc v c a (lgT s v d)
theorem ls_text {v : Nat} (hv : v < 1000000) : ∀ (n : Nat) (ls : List Nat) (s : TS), ls.length = n → (∀ c ∈ ls, sgn c) → s.1.length + 8 * n < 2 ^ 28 → tm_of (lsT s v ls).1 59 (lsT s v ls).1.length = tm_of s.1 59 s.1.length + nI n ∧ (ls = [] → st_last (lsT s v ls).1 = st_last s.1) ∧ (∀ a c, ls = a ++ [c] → st_last (lsT s v ls).1 = st_of (nI c)) ∧ ((∀ j, s.1.getD j 0 < 128) → ∀ j, (lsT s v ls).1.getD j 0 < 128)
  | 0, ls, s, h, _, _ => by
    obtain rfl := List.length_eq_zero_iff.mp h
    exact ⟨(Int32.add_zero _).symm, fun _ => rfl, fun a c q => absurd q (by simp), fun q => q⟩
  | n + 1, ls, s, h, hs, hb => by
    have hne : ls ≠ [] := fun q => by rw [q] at h; cases h
    obtain ⟨a, c, rfl⟩ : ∃ a c, ls = a ++ [c] := ⟨ls.dropLast, ls.getLast hne, (List.dropLast_concat_getLast hne).symm⟩
    rw [List.length_append] at h
    have ha : a.length = n := by change a.length + 1 = n + 1 at h; omega
    have ih := ls_text hv n a s ha (fun d hd => hs d (List.mem_append_left _ hd)) (by omega)
    have hl := ls_len hv a s
    have g := lg_text (lsT s v a).1 v c (hs c (List.mem_append_right _ (List.mem_singleton.mpr rfl))) (by omega) hv
    rw [ls_snoc]
    refine ⟨?_, fun q => absurd q (by simp), fun a' c' q => ?_, fun q => g.2.2 (ih.2.2.2 q)⟩
    · show tm_of ((lsT s v a).1 ++ decL v ++ [c] ++ [59]) 59 _ = _
      rw [show (lgT (lsT s v a) v c).1.length = ((lsT s v a).1 ++ decL v ++ [c] ++ [59]).length from rfl, g.1, ih.1, Int32.add_assoc, nI_1]
    · have := List.append_inj' q rfl
      cases this.2
      exact g.2.1
theorem R_t.ls {s : TS} {X X' : XF} {v : Nat} {ls : List Nat} (h : R_t s.1 X) (hv : v < 1000000) (hl : ltOk ls X X') (hs : ∀ c ∈ ls, sgn c) (hb : s.1.length + 8 * ls.length < 2 ^ 28) : R_t (lsT s v ls).1 X' := by
  obtain ⟨h1, h2, h3⟩ := h
  have t := ls_text hv ls.length ls s rfl hs hb
  refine ⟨by rw [hl.1, t.1, h1], ?_, t.2.2.2 h3⟩
  by_cases hn : ls = []
  · rw [t.2.1 hn, hl.2.1 hn, h2]
  · have e := (List.dropLast_concat_getLast hn).symm
    rw [t.2.2.1 _ _ e, hl.2.2 _ _ e]
/-- all that both sides keep: L letters told at most -/
def RelK (v L : Nat) (X : XF) (K : KF) : Prop := sd 0 K = sd 1 K ∧ okT (sd 0 K) ∧ R_t (K.2.2.1 0) X ∧ (K.2.2.1 0).length ≤ 8 * L ∧ L + ci (X 118 0) ≤ v + 2100
set_option maxHeartbeats 1000000 in
theorem pass_eq {v z z5 z8 zs : Nat} {X M : XF} {K K2 : KF} (h : Rel v z z5 z8 zs X M K2.1) (ht : R_t (K.2.2.1 0) X) (hs : sd 0 K = sd 1 K2) (hk : okT (sd 0 K)) {L : Nat} (hL : (K.2.2.1 0).length ≤ 8 * L) (hp : L + ci (X 118 0) ≤ v + 2100) : ∀ i, v + i ≤ 100000 → Rel (v + i) z z5 z8 zs (ps_X z z5 z8 v X i) (gs_P z zs z5 z8 v M K2 i).1 K2.1 ∧ sd 0 (ps_K z z5 z8 v X K i) = sd 1 (gs_P z zs z5 z8 v M K2 i).2 ∧ R_t ((ps_K z z5 z8 v X K i).2.2.1 0) (ps_X z z5 z8 v X i) ∧ okT (sd 0 (ps_K z z5 z8 v X K i)) ∧ (∃ L', ((ps_K z z5 z8 v X K i).2.2.1 0).length ≤ 8 * L' ∧ L' + ci (ps_X z z5 z8 v X i 118 0) ≤ v + i + 2100) ∧ sd 1 (ps_K z z5 z8 v X K i) = sd 1 K ∧ sd 0 (gs_P z zs z5 z8 v M K2 i).2 = sd 0 K2 ∧ rsK (ps_K z z5 z8 v X K i) = rsK K ∧ rsK (gs_P z zs z5 z8 v M K2 i).2 = rsK K2
  | 0, _ => ⟨h, hs, ht, hk, ⟨L, hL, hp⟩, rfl, rfl, rfl, rfl⟩
  | i + 1, hi => by
    obtain ⟨a1, a2, a3, a4, ⟨L', a5, a6⟩, a7, a8, a9, a10⟩ := pass_eq h ht hs hk hL hp i (by omega)
    have hJ : (gs_P z zs z5 z8 v M K2 i).2.1 = K2.1 := by
      have q := congrArg Prod.fst a10
      exact q
    have st := second_eq (K := (gs_P z zs z5 z8 v M K2 i).2) (by rw [hJ]; exact a1) (show v + i < 100000 by omega)
    have pt := sc_pot (v + i) z z5 z8 (ps_X z z5 z8 v X i)
    have sg := sc_sgn (v + i) z z5 z8 (ps_X z z5 z8 v X i)
    obtain ⟨b1, b2, b3⟩ := st
    have hci := ci_le (ps_X z z5 z8 v X i 118 0)
    have eK : ps_K z z5 z8 v X K (i + 1) = kLs (ps_K z z5 z8 v X K i) 0 (v + i) (sc_A (v + i) z z5 z8 (ps_X z z5 z8 v X i)).2 := rfl
    have eX : ps_X z z5 z8 v X (i + 1) = (sc_A (v + i) z z5 z8 (ps_X z z5 z8 v X i)).1 := rfl
    have eP : gs_P z zs z5 z8 v M K2 (i + 1) = ((gp_A (v + i) z zs z5 z8 (gs_P z zs z5 z8 v M K2 i).1 (gs_P z zs z5 z8 v M K2 i).2).1, kLs (gs_P z zs z5 z8 v M K2 i).2 1 (v + i) (gp_A (v + i) z zs z5 z8 (gs_P z zs z5 z8 v M K2 i).1 (gs_P z zs z5 z8 v M K2 i).2).2) := rfl
    have e0 : sd 0 (ps_K z z5 z8 v X K (i + 1)) = lsT (sd 0 (ps_K z z5 z8 v X K i)) (v + i) (sc_A (v + i) z z5 z8 (ps_X z z5 z8 v X i)).2 := by rw [eK, sd_ls0]
    have eT : (ps_K z z5 z8 v X K (i + 1)).2.2.1 0 = (lsT (sd 0 (ps_K z z5 z8 v X K i)) (v + i) (sc_A (v + i) z z5 z8 (ps_X z z5 z8 v X i)).2).1 := congrArg Prod.fst e0
    have el := ls_len (v := v + i) (by omega) (sc_A (v + i) z z5 z8 (ps_X z z5 z8 v X i)).2 (sd 0 (ps_K z z5 z8 v X K i))
    have lb : (sd 0 (ps_K z z5 z8 v X K i)).1.length = ((ps_K z z5 z8 v X K i).2.2.1 0).length := rfl
    refine ⟨?_, ?_, ?_, ?_, ⟨L' + (sc_A (v + i) z z5 z8 (ps_X z z5 z8 v X i)).2.length, ?_, ?_⟩, ?_, ?_, ?_, ?_⟩
    · rw [eX, eP, ← hJ]
      exact b3
    · rw [e0, eP]
      show _ = sd 1 (kLs _ 1 _ _)
      rw [sd_ls1, a2, b1]
    · rw [eT, eX]
      exact R_t.ls (s := sd 0 (ps_K z z5 z8 v X K i)) a3 (by omega) b2 sg (by omega)
    · rw [e0]
      exact okT.ls (by omega) _ a4
    · rw [eT]
      omega
    · rw [eX]
      omega
    · rw [eK, sd_ls01, a7]
    · rw [eP]
      show sd 0 (kLs _ 1 _ _) = _
      rw [sd_ls10, a8]
    · rw [eK, rs_ls 0 (by omega), a9]
    · rw [eP]
      show rsK (kLs _ 1 _ _) = _
      rw [rs_ls 1 (by omega), a10]
