/-! the beginning; what is asked -/
def X_0 : XF := si (si (si (si (si (fun _ _ => 0) 111 45) 112 (-1)) 113 45) 114 (-1)) 118 45
def M_0 : XF := si (si (si (fun _ _ => 0) 102 45) 108 (-1)) 110 (-1)
theorem Rel_0 : Rel 0 0 0 0 0 X_0 M_0 (fun _ => 0) := by
  have z0 : (0 : Int32).toInt = 0 := rfl
  refine ⟨⟨rfl, rfl, rfl, rfl, rfl, fun _ => isBo_0, fun _ => by show (0 ≤ (0 : Int32).toInt ∧ (0 : Int32).toInt ≤ 100000) ∧ (0 ≤ (0 : Int32).toInt ∧ (0 : Int32).toInt ≤ 1000) ∧ (0 ≤ (0 : Int32).toInt ∧ (0 : Int32).toInt ≤ 100) ∧ 0 ≤ (0 : Int32).toInt ∧ (0 : Int32).toInt ≤ (0 : Int32).toInt; decide⟩, ⟨rfl, rfl, rfl, rfl, rfl, rfl, rfl, by decide, fun _ => ich_0, fun i hi => absurd hi (Nat.not_lt_zero i), fun i hi => absurd hi (Nat.not_lt_zero i), fun i => bw_0 0⟩, ⟨rfl, rfl, rfl, rfl, rfl, by decide, fun i j _ hj => absurd hj (Nat.not_lt_zero j), fun i => bw_0 0, fun i hi => absurd hi (Nat.not_lt_zero i)⟩, ⟨rfl, rfl, fun _ => by show -9999 ≤ (0 : Int32).toInt ∧ (0 : Int32).toInt ≤ 9999; decide, fun _ => isBo_0, fun k _ => by show ¬ ((0 + 1) + 1) + 1 = (0 : Int32); decide⟩, fun i => by show (0 : Int32) = bt_risk 0 0; decide, ⟨rfl, fun _ => 0, fun i hi => absurd hi (Nat.not_lt_zero i), rfl, fun k _ => rfl⟩, rfl, ⟨rfl, fun _ => isBo_0⟩, rfl, ⟨rfl, rfl, rfl, rfl, rfl, rfl, rfl, rfl, rfl, by decide, fun _ => ich_0, fun i hi => absurd hi (Nat.not_lt_zero i), fun i hi => absurd hi (Nat.not_lt_zero i), fun i c _ _ => ?_, fun i hi => absurd hi (Nat.not_lt_zero i), fun i _ _ => rfl⟩, ⟨rfl, rfl, rfl, rfl, rfl, rfl, rfl, Or.inl ⟨rfl, rfl⟩, fun q => absurd q (fun w => w (by decide : md_hc (45 : Int32) = 0)), rfl, rfl, rfl, Or.inl rfl, rfl, ich_45, ich_45, ich_0, ich_0⟩, ⟨fun q => absurd (show md_ic 45 = 0 by decide) q, fun q => absurd q (show ¬ (45 : Int32) = 102 by decide), fun _ => rfl, fun q => absurd (show md_hl 45 = 0 by decide) q⟩, by decide, by decide⟩
  show (0 : Int32) = if bt 0 c = true then 1 else 0
  rw [b_0]
  rfl
theorem st_of_ne (c : Int32) : ¬ st_of c = 45 := by
  unfold st_of
  repeat' split
  all_goals decide
/-- before the first count its number is 0 -/
def R45 (X : XF) : Prop := X 118 0 = 45 → X 106 0 = 0
theorem r45_lt {ls : List Nat} {X X' : XF} (hl : ltOk ls X X') (hne : ls ≠ []) : ¬ X' 118 0 = 45 := fun q => by
  have e := (List.dropLast_concat_getLast hne).symm
  rw [hl.2.2 _ _ e] at q
  exact st_of_ne _ q
theorem R45.second {v z z5 z8 : Nat} {X : XF} (h : R45 X) (hl : ltOk (sc_A v z z5 z8 X).2 X (sc_A v z z5 z8 X).1) : R45 (sc_A v z z5 z8 X).1 := fun q => by
  by_cases hn : (sc_A v z z5 z8 X).2 = []
  · have h45 : X 118 0 = 45 := (hl.2.1 hn).symm.trans q
    have e118 : sc_3 z (sc_2 z8 (sc_1 X)) 118 = X 118 := sc_13 _ _ _ (by decide)
    have e : sc_4 v z z5 z8 (sc_3 z (sc_2 z8 (sc_1 X))) = (sc_3 z (sc_2 z8 (sc_1 X)), []) := by
      unfold sc_4
      rw [if_pos (show md_ic (sc_3 z (sc_2 z8 (sc_1 X)) 118 0) = 0 by rw [e118, h45]; decide), if_pos (show md_hl (sc_3 z (sc_2 z8 (sc_1 X)) 118 0) = 0 by rw [e118, h45]; decide)]
    have e6 : (sc_A v z z5 z8 X).1 106 = X 106 := by
      show sc_5 v (sc_4 v z z5 z8 (sc_3 z (sc_2 z8 (sc_1 X)))).1 106 = _
      rw [sc_5_k _ _ (by decide), e]
      rw [show X 106 = sc_3 z (sc_2 z8 (sc_1 X)) 106 from ?_]
      unfold sc_3
      rw [sa_ne _ _ (by decide), sa_ne _ _ (by decide)]
      unfold sc_2
      rw [if_pos (show md_ic (sc_1 X 118 0) = 0 by show md_ic (X 118 0) = 0; rw [h45]; decide)]
      rfl
    rw [e6]
    exact h h45
  · exact absurd q (r45_lt hl hn)
section
variable {v z z5 z8 zs : Nat} {X M : XF} {J : Nat → Int64}
theorem Rel.va (h : Rel v z z5 z8 zs X M J) : R_va v zs X M := ⟨h.1, h.2.2.2.1, h.2.2.2.2.1, h.2.2.2.2.2.1, h.2.2.2.2.2.2.1, h.2.2.2.2.2.2.2.1.1, h.2.2.2.2.2.2.2.2.2.2.1.2.1, by have := h.2.2.2.2.2.2.2.2.2.2.2.2.1; omega⟩
theorem q_value (K : KF) (h : Rel v z z5 z8 zs X M J) {j : Nat} (hj : j < z) : cl_val X j = md_val M K zs j := val_eq K h.va h.2.2.2.2.2.2.2.2.2.1 hj
theorem q_met (K : KF) (h : Rel v z z5 z8 zs X M J) {j : Nat} (hj : j < z) : cl_met X j = md_met M K zs j := met_eq K h.va h.2.2.2.2.2.2.2.2.2.1 h.2.2.2.2.2.2.2.2.2.2.1.2.2.2.2.2.2.2.2.2.2.2.1 h.2.2.2.2.2.2.2.2.2.2.1.2.2.2.1 hj
theorem q_beg (h : Rel v z z5 z8 zs X M J) : xk_beg (X 118 0) = xs_beg (M 103 0) := by
  have e := h.2.2.2.2.2.2.2.2.2.2.1.2.2.2.2.2.2.2.2.2.2.2.1
  unfold xk_beg xs_beg
  rw [e]
  by_cases q : X 118 0 = 45
  · rw [if_pos q, if_pos q]; rfl
  · rw [if_neg q, if_neg q]; rfl
theorem q_cau (h : Rel v z z5 z8 zs X M J) : xk_cau (X 118 0) = xs_cau (M 102 0) ∧ (xk_cau (X 118 0) = 0 → X 111 0 = M 107 0) := by
  have es := h.2.2.2.2.2.2.2.2.2.2.1.2.2.1
  have ec := h.2.2.2.2.2.2.2.2.2.2.1.2.2.2.2.2.2.2.2.1
  unfold xk_cau xs_cau
  rw [← es]
  refine ⟨rfl, fun q => (ec (fun w => ?_)).1⟩
  rw [if_pos w] at q
  exact absurd q (by decide)
theorem q_car (h : Rel v z z5 z8 zs X M J) : xk_car (X 118 0) (X 112 0) = xs_car (M 102 0) (M 108 0) ∧ (xk_car (X 118 0) (X 112 0) = 0 → X 112 0 = M 108 0) := by
  have es := h.2.2.2.2.2.2.2.2.2.2.1.2.2.1
  have ec := h.2.2.2.2.2.2.2.2.2.2.1.2.2.2.2.2.2.2.2.1
  unfold xk_car xs_car
  rw [← es]
  by_cases w : md_hc (X 118 0) = 0
  · rw [if_pos w, if_pos w]
    exact ⟨rfl, fun q => absurd q (by decide)⟩
  · rw [if_neg w, if_neg w, (ec w).2]
    exact ⟨rfl, fun _ => rfl⟩
theorem q_sound (h : Rel v z z5 z8 zs X M J) {T : List Nat} (ht : R_t T X) : snd_X X T = 1 := by
  obtain ⟨h1, h2, -⟩ := ht
  have tl : tl_all X T = 1 := by
    unfold tl_all
    rw [if_pos h1.symm, if_pos h2]
  have b4 := h.2.2.2.2.2.2.2.2.2.2.2.1.2.2.2
  unfold snd_X
  rw [tl]
  by_cases q : md_hl (X 118 0) = 0
  · rw [if_pos q]; rfl
  · obtain ⟨c1, c2⟩ := b4 q
    rw [if_neg q, c1, if_neg (show ¬ (1 : Int32) = 0 by decide), if_neg c2]
    rfl
theorem q_sum (h : Rel v z z5 z8 zs X M J) (h45 : R45 X) (len : Nat) : ck_X X z len = mk_X M z len := by
  obtain ⟨a1, a2, a3, a4, a5, a6, a7, a8, a9, a10, a11, a12, -⟩ := h.2.2.2.2.2.2.2.2.2.2.1
  have e5 := h.1.2.2.2.1
  have e31 := h.2.2.2.2.2.2.2.2.2.1.2.2.2.2.2.1
  have e : (X 106 0) = (if M 103 0 = 0 then 0 else M 104 0) := by
    rw [a12]
    by_cases q : X 118 0 = 45
    · rw [if_pos q, if_pos rfl]; exact h45 q
    · rw [if_neg q, if_neg (show ¬ (1 : Int32) = 0 by decide)]; exact a4
  unfold ck_X mk_X
  rw [e5, e31, ← e, a1, a2]
  rfl
theorem q_near (h : Rel v z z5 z8 zs X M J) : X 104 0 = md_near (M 58) (M 101 0) zs := (near_eq h.2.2.2.2.2.1 (by have := h.2.2.2.2.2.2.2.2.2.2.2.2.1; omega) h.2.2.2.2.2.2.2.2.2.2.1.2.1).symm
end
