/-! each call keeps what both sides keep -/
theorem ix_of {p : Int32} {n : Nat} (hn : n < 2 ^ 31) (h : ¬ bel p (nI n) = 0) : ∃ j, j < n ∧ p = nI j ∧ p.toNatClampNeg = j := by
  obtain ⟨j, hj, e⟩ := bel_ix (s := nI n) rfl hn h
  exact ⟨j, hj, e, by rw [e]; exact nI_clamp (by omega)⟩
theorem i0 {c : Prop} [Decidable c] {a : Int32} (h : (if c then (1 : Int32) else a) = 0) : ¬ c ∧ a = 0 := by
  by_cases q : c
  · rw [if_pos q] at h; exact absurd h (by decide)
  · rw [if_neg q] at h; exact ⟨q, h⟩
theorem i0' {c : Prop} [Decidable c] {k a : Int32} (hk : ¬ k = 0) (h : (if c then k else a) = 0) : ¬ c ∧ a = 0 := by
  by_cases q : c
  · rw [if_pos q] at h; exact absurd h hk
  · rw [if_neg q] at h; exact ⟨q, h⟩
section
variable {v z z5 z8 zs : Nat} {X M : XF} {J : Nat → Int64}
theorem o_tank (h : Rel v z z5 z8 zs X M J) (p1 p2 p3 p4 : Int32) (hc : xk_tank p1 p2 p3 p4 = 0) : tk_min (X 5 p1.toNatClampNeg) p2 = tk_min (M 46 p1.toNatClampNeg) p2 ∧ Rel v z z5 z8 zs (sa (sa (sa (sa X 2 (upd (X 2) p1.toNatClampNeg p2)) 3 (upd (X 3) p1.toNatClampNeg p3)) 4 (upd (X 4) p1.toNatClampNeg p4)) 5 (upd (X 5) p1.toNatClampNeg (tk_min (X 5 p1.toNatClampNeg) p2))) (sa (sa (sa (sa (si M 100 0) 43 (upd (M 43) p1.toNatClampNeg p2)) 44 (upd (M 44) p1.toNatClampNeg p3)) 45 (upd (M 45) p1.toNatClampNeg p4)) 46 (upd (M 46) p1.toNatClampNeg (tk_min (M 46 p1.toNatClampNeg) p2))) J := by
  obtain ⟨t1, t2, t3, t4, t5, t6, t7, t8, t9, t10, t11, t12, t13, t14⟩ := h
  obtain ⟨b1, b2, b3, b4, b5, b6, b7⟩ := t1
  unfold xk_tank at hc
  obtain ⟨-, hc⟩ := i0 hc
  obtain ⟨c2, hc⟩ := i0 hc
  obtain ⟨c3, hc⟩ := i0 hc
  obtain ⟨c4, -⟩ := i0 hc
  have d2 := inr_iff.mp c2
  have d3 := inr_iff.mp c3
  have d4 := inr_iff.mp c4
  have z0 : (0 : Int32).toInt = 0 := rfl
  have z1 : (100000 : Int32).toInt = 100000 := rfl
  have z2 : (1000 : Int32).toInt = 1000 := rfl
  have z3 : (100 : Int32).toInt = 100 := rfl
  refine ⟨by rw [b4], ⟨?_, ?_, ?_, ?_, b5, b6, fun i => ?_⟩, t2, t3, t4, t5, t6, t7, t8, t9, t10, t11, t12, t13, t14⟩
  · show upd (X 2) _ p2 = upd (M 43) _ p2
    rw [b1]
  · show upd (X 3) _ p3 = upd (M 44) _ p3
    rw [b2]
  · show upd (X 4) _ p4 = upd (M 45) _ p4
    rw [b3]
  · show upd (X 5) _ _ = upd (M 46) _ _
    rw [b4]
  · show (0 ≤ (upd (X 2) _ p2 i).toInt ∧ (upd (X 2) _ p2 i).toInt ≤ 100000) ∧ (0 ≤ (upd (X 3) _ p3 i).toInt ∧ (upd (X 3) _ p3 i).toInt ≤ 1000) ∧ (0 ≤ (upd (X 4) _ p4 i).toInt ∧ (upd (X 4) _ p4 i).toInt ≤ 100) ∧ 0 ≤ (upd (X 5) _ (tk_min (X 5 p1.toNatClampNeg) p2) i).toInt ∧ (upd (X 5) _ (tk_min (X 5 p1.toNatClampNeg) p2) i).toInt ≤ (upd (X 2) _ p2 i).toInt
    rw [upd_at, upd_at, upd_at, upd_at]
    have q := b7 i
    have q' := b7 p1.toNatClampNeg
    by_cases hi : i = p1.toNatClampNeg
    · rw [if_pos hi, if_pos hi, if_pos hi, if_pos hi, tk_min_int]
      omega
    · rw [if_neg hi, if_neg hi, if_neg hi, if_neg hi]
      exact q
theorem o_valve (h : Rel v z z5 z8 zs X M J) (p1 p2 : Int32) (h2 : isBo p2) : X 6 p1.toNatClampNeg = M 47 p1.toNatClampNeg ∧ Rel v z z5 z8 zs (sa X 6 (upd (X 6) p1.toNatClampNeg p2)) (sa (si M 100 0) 47 (upd (M 47) p1.toNatClampNeg p2)) J := by
  obtain ⟨t1, t2, t3, t4, t5, t6, t7, t8, t9, t10, t11, t12, t13, t14⟩ := h
  obtain ⟨b1, b2, b3, b4, b5, b6, b7⟩ := t1
  refine ⟨by rw [b5], ⟨b1, b2, b3, b4, ?_, fun i => ?_, b7⟩, t2, t3, t4, t5, t6, t7, t8, t9, t10, t11, t12, t13, t14⟩
  · show upd (X 6) _ p2 = upd (M 47) _ p2
    rw [b5]
  · show isBo (upd (X 6) _ p2 i)
    rw [upd_at]
    split
    · exact h2
    · exact b6 i
theorem tk_min_comm (a b : Int32) : tk_min a b = tk_min b a := by
  apply Int32.toInt_inj.mp
  rw [tk_min_int, tk_min_int]
  omega
theorem o_drain (h : Rel v z z5 z8 zs X M J) (p1 p2 : Int32) (hc : xk_drain p1 p2 = 0) : tk_min (X 5 p1.toNatClampNeg) p2 = tk_min p2 (M 46 p1.toNatClampNeg) ∧ Rel v z z5 z8 zs (sa X 5 (upd (X 5) p1.toNatClampNeg (X 5 p1.toNatClampNeg - tk_min (X 5 p1.toNatClampNeg) p2))) (sa (si M 100 0) 46 (upd (M 46) p1.toNatClampNeg (M 46 p1.toNatClampNeg - tk_min p2 (M 46 p1.toNatClampNeg)))) J := by
  obtain ⟨t1, t2, t3, t4, t5, t6, t7, t8, t9, t10, t11, t12, t13, t14⟩ := h
  obtain ⟨b1, b2, b3, b4, b5, b6, b7⟩ := t1
  unfold xk_drain at hc
  obtain ⟨-, hc⟩ := i0 hc
  obtain ⟨c2, -⟩ := i0 hc
  have d2 := inr_iff.mp c2
  have z0 : (1 : Int32).toInt = 1 := rfl
  have z1 : (100000 : Int32).toInt = 100000 := rfl
  have e : tk_min (X 5 p1.toNatClampNeg) p2 = tk_min p2 (M 46 p1.toNatClampNeg) := by rw [b4]; exact tk_min_comm _ _
  refine ⟨e, ⟨b1, b2, b3, ?_, b5, b6, fun i => ?_⟩, t2, t3, t4, t5, t6, t7, t8, t9, t10, t11, t12, t13, t14⟩
  · show upd (X 5) _ _ = upd (M 46) _ _
    rw [e, b4]
  · show (0 ≤ (X 2 i).toInt ∧ (X 2 i).toInt ≤ 100000) ∧ (0 ≤ (X 3 i).toInt ∧ (X 3 i).toInt ≤ 1000) ∧ (0 ≤ (X 4 i).toInt ∧ (X 4 i).toInt ≤ 100) ∧ 0 ≤ (upd (X 5) _ (X 5 p1.toNatClampNeg - tk_min (X 5 p1.toNatClampNeg) p2) i).toInt ∧ (upd (X 5) _ (X 5 p1.toNatClampNeg - tk_min (X 5 p1.toNatClampNeg) p2) i).toInt ≤ (X 2 i).toInt
    rw [upd_at]
    have q := b7 i
    by_cases hi : i = p1.toNatClampNeg
    · rw [if_pos hi, ← hi, Int32.toInt_sub, tk_min_int, Int.bmod_def]
      split <;> omega
    · rw [if_neg hi]
      exact q
theorem o_sense (h : Rel v z z5 z8 zs X M J) (p1 p2 : Int32) (hc : xk_sense p1 p2 = 0) : sn_tell (X 19) (upd (X 18) p1.toNatClampNeg p2) (p1.toNatClampNeg / 3) = md_tog (M 57) (upd (M 56) p1.toNatClampNeg p2) (p1.toNatClampNeg / 3) ∧ Rel v z z5 z8 zs (sa X 18 (upd (X 18) p1.toNatClampNeg p2)) (sa (si M 100 0) 56 (upd (M 56) p1.toNatClampNeg p2)) J := by
  obtain ⟨t1, t2, t3, t4, t5, t6, t7, t8, t9, t10, t11, t12, t13, t14⟩ := h
  obtain ⟨b1, b2, b3, b4, b5⟩ := t4
  unfold xk_sense at hc
  obtain ⟨c1, hc⟩ := i0 hc
  obtain ⟨c2, -⟩ := i0 hc
  have d2 := inr_iff.mp c2
  have z0 : (-9999 : Int32).toInt = -9999 := rfl
  have z1 : (9999 : Int32).toInt = 9999 := rfl
  obtain ⟨j, hj, ej, ecl⟩ := ix_of (n := 9) (by decide) c1
  have hb : ∀ i, -9999 ≤ (upd (X 18) p1.toNatClampNeg p2 i).toInt ∧ (upd (X 18) p1.toNatClampNeg p2 i).toInt ≤ 9999 := fun i => by
    rw [upd_at]
    split
    · omega
    · exact b3 i
  refine ⟨?_, t1, t2, t3, ⟨?_, b2, hb, b4, b5⟩, t5, t6, t7, t8, t9, t10, t11, t12, t13, t14⟩
  · rw [tog_eq hb (b5 _ (by rw [ecl]; omega)), b1, b2]
  · show upd (X 18) _ p2 = upd (M 56) _ p2
    rw [b1]
theorem cnt_upd {o : Nat → Int32} {j k : Nat} {p : Int32} (h : ¬ k = j / 3) : sn_cnt (upd o j p) k 3 = sn_cnt o k 3 := by
  rw [cnt_val, cnt_val, upd_at, upd_at, upd_at, if_neg (show ¬ 3 * k = j by omega), if_neg (show ¬ 3 * k + 1 = j by omega), if_neg (show ¬ 3 * k + 2 = j by omega)]
theorem o_inh (h : Rel v z z5 z8 zs X M J) (p1 p2 : Int32) (h2 : isBo p2) (hc : xk_inh (X 19) p1 p2 = 0) : sn_cnt (upd (X 19) p1.toNatClampNeg p2) (p1.toNatClampNeg / 3) 3 = sn_cnt (upd (M 57) p1.toNatClampNeg p2) (p1.toNatClampNeg / 3) 3 ∧ Rel v z z5 z8 zs (sa X 19 (upd (X 19) p1.toNatClampNeg p2)) (sa (si M 100 0) 57 (upd (M 57) p1.toNatClampNeg p2)) J := by
  obtain ⟨t1, t2, t3, t4, t5, t6, t7, t8, t9, t10, t11, t12, t13, t14⟩ := h
  obtain ⟨b1, b2, b3, b4, b5⟩ := t4
  unfold xk_inh at hc
  obtain ⟨c1, hc⟩ := i0 hc
  obtain ⟨j, hj, ej, ecl⟩ := ix_of (n := 9) (by decide) c1
  refine ⟨by rw [b2], t1, t2, t3, ⟨b1, ?_, b3, fun i => ?_, fun k hk => ?_⟩, t5, t6, t7, t8, t9, t10, t11, t12, t13, t14⟩
  · show upd (X 19) _ p2 = upd (M 57) _ p2
    rw [b2]
  · show isBo (upd (X 19) _ p2 i)
    rw [upd_at]
    split
    · exact h2
    · exact b4 i
  · show ¬ sn_cnt (upd (X 19) p1.toNatClampNeg p2) k 3 = 0
    rw [ecl] at hc ⊢
    by_cases hkj : k = j / 3
    · have b := b5 k hk
      rw [cnt_val] at b
      by_cases hp : p2 = 0
      · rw [cnt_val, upd_at, upd_at, upd_at]
        have r : j = 3 * k ∨ j = 3 * k + 1 ∨ j = 3 * k + 2 := by omega
        rcases r with r | r | r
        · rw [if_pos r.symm, if_pos hp]
          repeat' split
          all_goals decide
        · rw [if_pos (show 3 * k + 1 = j from r.symm), if_pos hp]
          repeat' split
          all_goals decide
        · rw [if_pos (show 3 * k + 2 = j from r.symm), if_pos hp]
          repeat' split
          all_goals decide
      · rw [if_neg hp] at hc
        have hl : sn_last (X 19) j = 0 := by
          by_cases q : sn_last (X 19) j = 0
          · exact q
          · rw [if_neg q] at hc; exact absurd hc (by decide)
        unfold sn_last at hl
        rw [← hkj] at hl
        rw [cnt_val] at hl
        rw [cnt_val, upd_at, upd_at, upd_at]
        have r : j = 3 * k ∨ j = 3 * k + 1 ∨ j = 3 * k + 2 := by omega
        have key : ∀ a b c : Int32, isBo a → isBo b → isBo c → ¬ (if a = 0 then (1 : Int32) else 0) + (if b = 0 then 1 else 0) + (if c = 0 then 1 else 0) = 0 → ((if a = 0 then (if (if a = 0 then (1 : Int32) else 0) + (if b = 0 then 1 else 0) + (if c = 0 then 1 else 0) = 1 then (1 : Int32) else 0) else 0) = 0 → ¬ (0 : Int32) + (if b = 0 then 1 else 0) + (if c = 0 then 1 else 0) = 0) ∧ ((if b = 0 then (if (if a = 0 then (1 : Int32) else 0) + (if b = 0 then 1 else 0) + (if c = 0 then 1 else 0) = 1 then (1 : Int32) else 0) else 0) = 0 → ¬ (if a = 0 then (1 : Int32) else 0) + 0 + (if c = 0 then 1 else 0) = 0) ∧ ((if c = 0 then (if (if a = 0 then (1 : Int32) else 0) + (if b = 0 then 1 else 0) + (if c = 0 then 1 else 0) = 1 then (1 : Int32) else 0) else 0) = 0 → ¬ (if a = 0 then (1 : Int32) else 0) + (if b = 0 then 1 else 0) + 0 = 0) := by
          intro a b c ha hb hc
          rcases ha with rfl | rfl <;> rcases hb with rfl | rfl <;> rcases hc with rfl | rfl <;> decide
        have kk := key _ _ _ (b4 (3 * k)) (b4 (3 * k + 1)) (b4 (3 * k + 2)) b
        rcases r with r | r | r
        · rw [if_pos r.symm, if_neg hp, if_neg (show ¬ 3 * k + 1 = j by omega), if_neg (show ¬ 3 * k + 2 = j by omega)]
          rw [r] at hl
          exact kk.1 hl
        · rw [if_neg (show ¬ 3 * k = j by omega), if_pos (show 3 * k + 1 = j from r.symm), if_neg hp, if_neg (show ¬ 3 * k + 2 = j by omega)]
          rw [r] at hl
          exact kk.2.1 hl
        · rw [if_neg (show ¬ 3 * k = j by omega), if_neg (show ¬ 3 * k + 1 = j by omega), if_pos (show 3 * k + 2 = j from r.symm), if_neg hp]
          rw [r] at hl
          exact kk.2.2 hl
    · rw [cnt_upd hkj]
      exact b5 k hk
theorem o_wind (h : Rel v z z5 z8 zs X M J) (p1 : Int32) : X 100 0 = M 115 0 ∧ Rel v z z5 z8 zs (si X 100 p1) (si (si M 100 0) 115 p1) J := by
  obtain ⟨t1, t2, t3, t4, t5, t6, t7, t8, t9, t10, t11, t12, t13, t14⟩ := h
  exact ⟨t7, t1, t2, t3, t4, t5, t6, rfl, t8, t9, t10, t11, t12, t13, t14⟩
theorem o_boat (h : Rel v z z5 z8 zs X M J) (p1 p2 p3 : Int32) : bt_sum (upd (X 23) p1.toNatClampNeg (bt_risk p2 p3)) 8 = md_risk (upd (M 59) p1.toNatClampNeg p2) (upd (M 60) p1.toNatClampNeg p3) ∧ Rel v z z5 z8 zs (sa X 23 (upd (X 23) p1.toNatClampNeg (bt_risk p2 p3))) (sa (sa (si M 100 0) 59 (upd (M 59) p1.toNatClampNeg p2)) 60 (upd (M 60) p1.toNatClampNeg p3)) J := by
  obtain ⟨t1, t2, t3, t4, t5, t6, t7, t8, t9, t10, t11, t12, t13, t14⟩ := h
  have e : ∀ i, upd (X 23) p1.toNatClampNeg (bt_risk p2 p3) i = bt_risk (upd (M 59) p1.toNatClampNeg p2 i) (upd (M 60) p1.toNatClampNeg p3 i) := fun i => by
    rw [upd_at, upd_at, upd_at]
    split
    · rfl
    · exact t5 i
  exact ⟨bt_cong e 8, t1, t2, t3, t4, e, t6, t7, t8, t9, t10, t11, t12, t13, t14⟩
theorem o_go (h : Rel v z z5 z8 zs X M J) (p1 p2 : Int32) (h2 : isBo p2) : X 41 p1.toNatClampNeg = M 61 p1.toNatClampNeg ∧ Rel v z z5 z8 zs (sa X 41 (upd (X 41) p1.toNatClampNeg p2)) (sa (si M 100 0) 61 (upd (M 61) p1.toNatClampNeg p2)) J := by
  obtain ⟨t1, t2, t3, t4, t5, t6, t7, t8, t9, t10, t11, t12, t13, t14⟩ := h
  refine ⟨by rw [t8.1], t1, t2, t3, t4, t5, t6, t7, ⟨?_, fun i => ?_⟩, t9, t10, t11, t12, t13, t14⟩
  · show upd (X 41) _ p2 = upd (M 61) _ p2
    rw [t8.1]
  · show isBo (upd (X 41) _ p2 i)
    rw [upd_at]
    split
    · exact h2
    · exact t8.2 i
theorem o_track (h : Rel v z z5 z8 zs X M J) (p1 p2 : Int32) : X 37 p1.toNatClampNeg = M 62 p1.toNatClampNeg ∧ Rel v z z5 z8 zs (sa X 37 (upd (X 37) p1.toNatClampNeg p2)) (sa (si M 100 0) 62 (upd (M 62) p1.toNatClampNeg p2)) J := by
  obtain ⟨t1, t2, t3, t4, t5, t6, t7, t8, t9, t10, t11, t12, t13, t14⟩ := h
  refine ⟨by rw [t9], t1, t2, t3, t4, t5, t6, t7, t8, ?_, t10, t11, t12, t13, t14⟩
  show upd (X 37) _ p2 = upd (M 62) _ p2
  rw [t9]
theorem o_step (h : Rel v z z5 z8 zs X M J) (p1 p2 : Int32) (hc : xk_step (nI z8) (X 118 0) p1 p2 = 0) : Rel v z z5 (z8 + 1) zs (si (sa (sa (sa X 8 (upd (X 8) z8 p1)) 9 (upd (X 9) z8 p2)) 12 (upd (X 12) z8 45)) 102 (nI z8 + 1)) (si (sa (sa (sa (si M 100 0) 48 (upd (M 48) z8 p1)) 49 (upd (M 49) z8 p2)) 51 (upd (M 51) z8 45)) 113 (nI z8 + 1)) J := by
  obtain ⟨t1, t2, t3, t4, t5, t6, t7, t8, t9, t10, t11, t12, t13, t14⟩ := h
  obtain ⟨b1, b2, b3, b4, b5, b6, b7, b8, b9, b10, b11, b12⟩ := t2
  obtain ⟨m1, m2, m3, m4, m5, m6, m7, m8⟩ := t3
  unfold xk_step at hc
  obtain ⟨-, hc⟩ := i0 hc
  obtain ⟨c2, hc⟩ := i0 hc
  obtain ⟨c3, -⟩ := i0' (by decide) hc
  have d2 := inr_iff.mp c2
  have z1 : (1 : Int32).toInt = 1 := rfl
  have h16 : z8 < 16 := Nat.lt_of_not_le (fun q => c3 (by
    rw [show (16 : Int32) = nI 16 from rfl, nI_leI (by decide) (by omega)]
    exact q))
  refine ⟨t1, ⟨?_, ?_, b3, b4, ?_, nI_1 _, nI_1 _, by omega, fun i => ?_, fun i hi => ?_, fun i hi => ?_, fun i => (b12 i).mono (by omega)⟩, ⟨m1, m2, m3, m4, m5, m6, m7, fun i => (m8.1 i).mono (by omega), m8.2⟩, t4, t5, t6, t7, t8, t9, t10, t11, t12, t13, t14⟩
  · show upd (X 8) _ p1 = upd (M 48) _ p1
    rw [b1]
  · show upd (X 9) _ p2 = upd (M 49) _ p2
    rw [b2]
  · show upd (X 12) _ 45 = upd (M 51) _ 45
    rw [b5]
  · show isCh (upd (X 12) _ 45 i)
    rw [upd_at]
    split
    · exact ⟨by decide, by decide⟩
    · exact b9 i
  · show 1 ≤ (upd (X 9) z8 p2 i).toInt
    rw [upd_at]
    split
    · omega
    · exact b10 i (by omega)
  · show upd (X 12) z8 45 i = 114 → 1 ≤ (X 10 i).toInt
    rw [upd_at]
    split
    · intro q; exact absurd q (by decide)
    · exact b11 i (by omega)
end
theorem cd_mark {f : Nat → Int32} {z5 z8 : Nat} (h5 : z5 ≤ 6) (h8 : z8 ≤ 16) (hd : ∀ i j, i < j → j < z5 → ¬ f i = f j) (st p1 p2 p3 : Int32) : xk_mark f z5 (nI z8) st p1 p2 p3 = xs_mark f z5 (nI z8) st p1 p2 p3 := by
  unfold xk_mark xs_mark
  rw [(kin p1 (-600) (-1) k64_m600 k64_m1), (kin p2 0 300 k64_0 k64_300), find_at hd, ← all_eq h8, pf_go]
  have e : ((6 : Int32) ≤ nI z5) = (nI z5 = 6) := by
    apply propext
    rw [show (6 : Int32) = nI 6 from rfl, nI_leI (by decide) (by omega), nI_eq (by omega) (by decide)]
    omega
  simp only [e]
theorem all_bw {z : Nat} (hz : z ≤ 16) {p : Int32} (h : ¬ adn (ush p (nI z)) = 0) : bw z p := by
  have h16 : 2 ^ z ≤ 2 ^ 16 := Nat.pow_le_pow_right (by decide) hz
  have e : (1 : Int32) <<< (nI z &&& 31) = nI (2 ^ z) := (by decide +kernel : ∀ z, z < 17 → (1 : Int32) <<< (nI z &&& 31) = nI (2 ^ z)) z (by omega)
  rw [all_eq hz, e, lin_bel (z := 2 ^ z) (by omega), bel_iff, nI_toInt (by omega)] at h
  exact (bw_iff hz p).mpr h
theorem mk_all {z : Nat} {c s t : Nat → Int32} {v : Int32} {P : Int32 → Prop} (hc : ∀ j, j < z → P (c j)) (hv : P v) : ∀ j, j < z + 1 → P (upd (mk_sh v z c s t).1.1 (mk_sh v z c s t).2 v j) := by
  obtain ⟨a1, a2, a3, a4, a5⟩ := mk_sh_spec v z c s t
  intro j hj
  rw [upd_at]
  by_cases h : j = (mk_sh v z c s t).2
  · rw [if_pos h]; exact hv
  · rw [if_neg h]
    by_cases hl : j < (mk_sh v z c s t).2
    · rw [a2 j hl]; exact hc j (by omega)
    · rw [a3 j (by omega) (by omega)]; exact hc (j - 1) (by omega)
theorem again_eq (s : Nat → Int32) : ∀ n, sp_again s n = ms_ag s n
  | 0 => rfl
  | n + 1 => by
    show upd (sp_again s n) n 45 = upd (ms_ag s n) n 45
    rw [again_eq s n]
theorem again_at (s : Nat → Int32) : ∀ n i, sp_again s n i = if i < n then 45 else s i
  | 0, i => rfl
  | n + 1, i => by
    show upd (sp_again s n) n 45 i = _
    rw [upd_at, again_at s n i]
    by_cases h : i = n
    · rw [if_pos h, if_pos (by omega)]
    · rw [if_neg h]
      by_cases h2 : i < n
      · rw [if_pos h2, if_pos (by omega)]
      · rw [if_neg h2, if_neg (by omega)]
theorem undo_eq (fr s : Nat → Int32) (c : Int32) : ∀ n, sp_undo fr s c n = gr_s fr s c n ∧ sp_undoN fr s c n = gr_n fr s c n
  | 0 => ⟨rfl, rfl⟩
  | n + 1 => by
    obtain ⟨h1, h2⟩ := undo_eq fr s c n
    unfold sp_undo gr_s sp_undoN gr_n
    rw [h1, h2]
    by_cases a : fr n < c
    · simp only [if_pos a]
      exact ⟨trivial, trivial⟩
    · simp only [if_neg a]
      by_cases b : gr_s fr s c n n = 45
      · simp only [if_pos b]
        refine ⟨?_, trivial⟩
        rw [← b, up_self]
      · simp only [if_neg b]
        exact ⟨trivial, trivial⟩
theorem undo_ch (fr s : Nat → Int32) (c : Int32) (h : ∀ i, isCh (s i)) : ∀ n i, isCh (gr_s fr s c n i)
  | 0, i => h i
  | n + 1, i => by
    have ih := undo_ch fr s c h n
    unfold gr_s
    split
    · exact ih i
    · rw [upd_at]
      split
      · exact ⟨by decide, by decide⟩
      · exact ih i
theorem undo_114 (fr s : Nat → Int32) (c : Int32) : ∀ n i, gr_s fr s c n i = 114 → s i = 114
  | 0, i, h => h
  | n + 1, i, h => by
    have ih := undo_114 fr s c n i
    unfold gr_s at h
    split at h
    · exact ih h
    · rw [upd_at] at h
      split at h
      · exact absurd h (by decide)
      · exact ih h
theorem rend_at (b : Nat → Int32) : ∀ n i, rl_end b n i = if i < n then -1 else b i
  | 0, i => rfl
  | n + 1, i => by
    show upd (rl_end b n) n (-1) i = _
    rw [upd_at, rend_at b n i]
    by_cases h : i = n
    · rw [if_pos h, if_pos (by omega)]
    · rw [if_neg h]
      by_cases h2 : i < n
      · rw [if_pos h2, if_pos (by omega)]
      · rw [if_neg h2, if_neg (by omega)]
theorem mend_at (b : Nat → Int32) : ∀ n i, md_end b n i = if i < n then 0 else b i
  | 0, i => rfl
  | n + 1, i => by
    show upd (md_end b n) n 0 i = _
    rw [upd_at, mend_at b n i]
    by_cases h : i = n
    · rw [if_pos h, if_pos (by omega)]
    · rw [if_neg h]
      by_cases h2 : i < n
      · rw [if_pos h2, if_pos (by omega)]
      · rw [if_neg h2, if_neg (by omega)]
/-- the waivers gone -/
theorem R_rl.end {z : Nat} {X M : XF} (h : R_rl z X M) : R_rl z (sa X 33 (rl_end (X 33) z)) (sa M 69 (md_end (M 69) 12)) := by
  obtain ⟨r1, r2, r3, r4, r5, r6, r7, r8, r9, r10, r11, r12, r13, r14, r15, r16⟩ := h
  refine ⟨r1, r2, r3, r4, r5, r6, r7, r8, r9, r10, r11, r12, r13, r14, fun i hi => Or.inl ⟨?_, ?_⟩, fun i h1 h2 => ?_⟩
  · show rl_end (X 33) z i = -1
    rw [rend_at, if_pos hi]
  · show md_end (M 69) 12 i = 0
    rw [mend_at, if_pos (by omega)]
  · show md_end (M 69) 12 i = 0
    rw [mend_at, if_pos h2]
theorem pf_0 {s : Int32} (h : xk_pf s = 0) : md_ic s = 0 ∧ md_hl s = 0 := by
  unfold xk_pf at h
  by_cases h1 : md_ic s = 0
  · rw [if_pos h1] at h
    by_cases h2 : md_hl s = 0
    · exact ⟨h1, h2⟩
    · rw [if_neg h2] at h; exact absurd h (by decide)
  · rw [if_neg h1] at h; exact absurd h (by decide)
theorem sum64 {v : Nat} {a : Int32} (hv : v ≤ 200000) (ha : 0 ≤ a.toInt ∧ a.toInt ≤ 5000) : (nI v + a).toInt64 = (nI v).toInt64 + a.toInt64 := by
  obtain ⟨j, ej, hj, e⟩ := nI_of' ha.1
  rw [ej, nI_add, nI_l (by omega), nI_l hj, nI_l (by omega), lN_add]
section
variable {v z z5 z8 zs : Nat} {X M : XF} {J : Nat → Int64}
theorem o_after (h : Rel v z z5 z8 zs X M J) (p1 p2 : Int32) (hc : xk_after (nI z8) (X 118 0) p1 p2 = 0) : bcnt (X 11 p1.toNatClampNeg ||| (1 <<< (p2 &&& 31))) = bcnt (M 50 p1.toNatClampNeg ||| (1 <<< (p2 &&& 31))) ∧ Rel v z z5 z8 zs (sa X 11 (upd (X 11) p1.toNatClampNeg (X 11 p1.toNatClampNeg ||| (1 <<< (p2 &&& 31))))) (sa (si M 100 0) 50 (upd (M 50) p1.toNatClampNeg (M 50 p1.toNatClampNeg ||| (1 <<< (p2 &&& 31))))) J := by
  obtain ⟨t1, t2, t3, t4, t5, t6, t7, t8, t9, t10, t11, t12, t13, t14⟩ := h
  obtain ⟨b1, b2, b3, b4, b5, b6, b7, b8, b9, b10, b11, b12⟩ := t2
  unfold xk_after at hc
  obtain ⟨-, hc⟩ := i0 hc
  obtain ⟨c2, -⟩ := i0 hc
  obtain ⟨k, hk, ek, -⟩ := ix_of (n := z8) (by omega) c2
  refine ⟨by rw [b4], t1, ⟨b1, b2, b3, ?_, b5, b6, b7, b8, b9, b10, b11, fun i => ?_⟩, t3, t4, t5, t6, t7, t8, t9, t10, t11, t12, t13, t14⟩
  · show upd (X 11) _ _ = upd (M 50) _ _
    rw [b4]
  · show bw z8 (upd (X 11) p1.toNatClampNeg (X 11 p1.toNatClampNeg ||| (1 <<< (p2 &&& 31))) i)
    rw [upd_at]
    split
    · intro q h1 h2
      rw [ek, or_bt (by omega) h2, b12 _ q h1 h2]
      simp
      omega
    · exact b12 i
theorem o_mark (h : Rel v z z5 z8 zs X M J) (p1 p2 p3 : Int32) (hc : xk_mark (X 14) z5 (nI z8) (X 118 0) p1 p2 p3 = 0) : Rel v z (z5 + 1) z8 zs (si (sa (sa (sa X 14 (upd (mk_sh p1 z5 (X 14) (X 15) (X 16)).1.1 (mk_sh p1 z5 (X 14) (X 15) (X 16)).2 p1)) 15 (upd (mk_sh p1 z5 (X 14) (X 15) (X 16)).1.2.1 (mk_sh p1 z5 (X 14) (X 15) (X 16)).2 p2)) 16 (upd (mk_sh p1 z5 (X 14) (X 15) (X 16)).1.2.2 (mk_sh p1 z5 (X 14) (X 15) (X 16)).2 p3)) 103 (nI z5 + 1)) (si (sa (sa (sa (si M 100 0) 53 (upd (mk_sh p1 z5 (M 53) (M 54) (M 55)).1.1 (mk_sh p1 z5 (M 53) (M 54) (M 55)).2 p1)) 54 (upd (mk_sh p1 z5 (M 53) (M 54) (M 55)).1.2.1 (mk_sh p1 z5 (M 53) (M 54) (M 55)).2 p2)) 55 (upd (mk_sh p1 z5 (M 53) (M 54) (M 55)).1.2.2 (mk_sh p1 z5 (M 53) (M 54) (M 55)).2 p3)) 114 (nI z5 + 1)) J := by
  obtain ⟨t1, t2, t3, t4, t5, t6, t7, t8, t9, t10, t11, t12, t13, t14⟩ := h
  obtain ⟨m1, m2, m3, m4, m5, m6, m7, m8, m9⟩ := t3
  have h8 := t2.2.2.2.2.2.2.2.1
  unfold xk_mark at hc
  obtain ⟨c1, hc⟩ := i0 hc
  obtain ⟨c2, hc⟩ := i0 hc
  have hf : mk_find (X 14) p1 z5 0 = -1 := by
    by_cases q : mk_find (X 14) p1 z5 0 = -1
    · exact q
    · rw [if_neg q] at hc; exact absurd hc (by decide)
  rw [if_pos hf] at hc
  obtain ⟨c3, hc⟩ := i0' (by decide) hc
  obtain ⟨c4, -⟩ := i0' (by decide) hc
  have d1 := inr_iff.mp c1
  have z6 : (-600 : Int32).toInt = -600 := rfl
  have h5 : z5 < 6 := Nat.lt_of_not_le (fun q => c4 (by
    rw [show (6 : Int32) = nI 6 from rfl, nI_leI (by decide) (by omega)]
    exact q))
  have hn : ∀ j, j < z5 → ¬ X 14 j = p1 := fun j hj q => by
    have hx : ∃ j', j' < z5 ∧ X 14 j' = p1 := ⟨j, hj, q⟩
    rw [find_hit (X 14) p1 q z5 0 (by omega) (by omega) (fun k _ hk w => m7 k j hk hj (by rw [w, q]))] at hf
    exact nI_ne (by omega) hf
  have sp := mk_sh_spec p1 z5 (X 14) (X 15) (X 16)
  refine ⟨t1, t2, ⟨?_, ?_, ?_, nI_1 _, nI_1 _, by omega, mk_ins m7 hn, fun i => ?_, mk_all (P := fun x => -600 ≤ x.toInt) m9 (by omega)⟩, t4, t5, t6, t7, t8, t9, t10, t11, t12, t13, t14⟩
  · show upd _ _ p1 = upd _ _ p1
    rw [m1, m2, m3]
  · show upd _ _ p2 = upd _ _ p2
    rw [m1, m2, m3]
  · show upd _ _ p3 = upd _ _ p3
    rw [m1, m2, m3]
  · show bw z8 (upd (mk_sh p1 z5 (X 14) (X 15) (X 16)).1.2.2 (mk_sh p1 z5 (X 14) (X 15) (X 16)).2 p3 i)
    rw [upd_at]
    split
    · exact all_bw h8 c3
    · obtain ⟨j', e⟩ := sp.2.2.2.2 i
      rw [e]
      exact m8 j'
theorem o_may (h : Rel v z z5 z8 zs X M J) (p1 p2 : Int32) (hc : xk_may (nI z) p1 p2 = 0) : (if rl_may (X 32 p1.toNatClampNeg) p2 = 0 then (1 : Int32) else 0) = (if M 71 (6 * p1.toNatClampNeg + p2.toNatClampNeg) = 0 then 1 else 0) ∧ Rel v z z5 z8 zs (sa X 32 (upd (X 32) p1.toNatClampNeg (X 32 p1.toNatClampNeg ||| (1 <<< (p2 &&& 31))))) (sa (si M 100 0) 71 (upd (M 71) (6 * p1.toNatClampNeg + p2.toNatClampNeg) 1)) J := by
  obtain ⟨t1, t2, t3, t4, t5, t6, t7, t8, t9, t10, t11, t12, t13, t14⟩ := h
  obtain ⟨r1, r2, r3, r4, r5, r6, r7, r8, r9, r10, r11, r12, r13, r14, r15, r16⟩ := t10
  unfold xk_may at hc
  obtain ⟨c1, hc⟩ := i0 hc
  obtain ⟨c2, -⟩ := i0' (by decide) hc
  obtain ⟨j, hj, ej, ecj⟩ := ix_of (n := z) (by omega) c1
  obtain ⟨c, hcc, ec, ecc⟩ := ix_of (n := 6) (by decide) c2
  rw [ecj, ecc, ec]
  refine ⟨?_, t1, t2, t3, t4, t5, t6, t7, t8, t9, ⟨r1, r2, r3, r4, r5, r6, r7, r8, r9, r10, r11, r12, r13, fun i d hi hd => ?_, fun i hi => ?_, r16⟩, t11, t12, t13, t14⟩
  · rw [may_bt (by omega), r14 j c (by omega) hcc]
  · show upd (M 71) (6 * j + c) 1 (6 * i + d) = if bt (upd (X 32) j (X 32 j ||| (1 <<< (nI c &&& 31))) i) d then 1 else 0
    rw [upd_at, upd_at]
    by_cases hij : i = j
    · rw [if_pos hij, or_bt (by omega) (by omega)]
      by_cases hdc : d = c
      · rw [if_pos (by omega)]
        simp [hdc]
      · rw [if_neg (by omega), r14 i d hi hd, hij]
        simp [hdc]
    · rw [if_neg hij, if_neg (by omega)]
      exact r14 i d hi hd
  · rcases r15 i hi with q | ⟨d, hd, q1, q2, q3⟩
    · exact Or.inl q
    · refine Or.inr ⟨d, hd, q1, q2, ?_⟩
      show bt (upd (X 32) j (X 32 j ||| (1 <<< (nI c &&& 31))) i) d = true
      rw [upd_at]
      split
      · rename_i e
        rw [or_bt (by omega) (by omega), ← e, q3]
        rfl
      · exact q3
theorem cd_waive (h : Rel v z z5 z8 zs X M J) (p1 p2 p3 : Int32) : xk_waive (X 32) (nI z) p1 p2 p3 = xs_waive (M 71) (nI z) p1 p2 p3 := by
  obtain ⟨-, -, -, -, -, -, -, -, -, t10, -⟩ := h
  obtain ⟨r1, r2, r3, r4, r5, r6, r7, r8, r9, r10, r11, r12, r13, r14, r15, r16⟩ := t10
  unfold xk_waive xs_waive
  simp only [no_bel (show z < 2 ^ 31 by omega), nc_bel, ni_0, it_no]
  rw [kin p3 (-600) 0 k64_m600 k64_0]
  by_cases c1 : bel p1 (nI z) = 0
  · rw [if_pos c1, if_pos c1]
  · rw [if_neg c1, if_neg c1]
    by_cases c2 : bel p2 6 = 0
    · rw [if_pos c2, if_pos c2]
    · rw [if_neg c2, if_neg c2]
      obtain ⟨j, hj, ej, ecj⟩ := ix_of (n := z) (by omega) c1
      obtain ⟨c, hcc, ec, ecc⟩ := ix_of (n := 6) (by decide) c2
      rw [ecj, ecc, ec, may_bt (by omega), r14 j c (by omega) hcc]
theorem iw_eq (hr : R_rl z X M) (hb : M 103 0 = if X 118 0 = 45 then 0 else 1) (ha : X 106 0 = M 104 0) {j : Nat} (hj : j < z) : cl_iw X j = md_iw (M 69 j) (M 103 0) (M 70 j) (M 104 0) := by
  have e2 := wv_eq hr hj (X 106 0)
  refine bo_eq (cl_iw_bo _ _) (md_iw_bo _ _ _ _) ?_
  unfold cl_iw md_iw
  rw [hb]
  by_cases h45 : X 118 0 = 45
  · rw [if_pos h45, if_pos h45, if_pos rfl]
    simp
  · rw [if_neg h45, if_neg h45, if_neg (show ¬ (1 : Int32) = 0 by decide), ← ha]
    simp only [e2]
    by_cases q1 : M 69 j = 0
    · simp [q1]
    · by_cases q2 : M 70 j < X 106 0
      · simp [q2]
      · simp [q1, q2]
theorem o_waive (h : Rel v z z5 z8 zs X M J) (p1 p2 p3 : Int32) (hc : xk_waive (X 32) (nI z) p1 p2 p3 = 0) : cl_iw X p1.toNatClampNeg = md_iw (M 69 p1.toNatClampNeg) (M 103 0) (M 70 p1.toNatClampNeg) (M 104 0) ∧ Rel v z z5 z8 zs (sa (sa X 33 (upd (X 33) p1.toNatClampNeg p2)) 34 (upd (X 34) p1.toNatClampNeg p3)) (sa (sa (si M 100 0) 69 (upd (M 69) p1.toNatClampNeg 1)) 70 (upd (M 70) p1.toNatClampNeg p3)) J := by
  obtain ⟨t1, t2, t3, t4, t5, t6, t7, t8, t9, t10, t11, t12, t13, t14⟩ := h
  have hr := t10
  obtain ⟨r1, r2, r3, r4, r5, r6, r7, r8, r9, r10, r11, r12, r13, r14, r15, r16⟩ := t10
  unfold xk_waive at hc
  obtain ⟨c1, hc⟩ := i0 hc
  obtain ⟨c2, hc⟩ := i0' (by decide) hc
  obtain ⟨c3, hc⟩ := i0' (by decide) hc
  obtain ⟨c4, -⟩ := i0' (by decide) hc
  obtain ⟨j, hj, ej, ecj⟩ := ix_of (n := z) (by omega) c1
  obtain ⟨c, hcc, ec, ecc⟩ := ix_of (n := 6) (by decide) c2
  rw [ecj] at c4 ⊢
  rw [ec, may_bt (by omega)] at c4
  have hbt : bt (X 32 j) c = true := by
    cases q : bt (X 32 j) c
    · rw [q] at c4; exact absurd rfl c4
    · rfl
  refine ⟨iw_eq hr t11.2.2.2.2.2.2.2.2.2.2.2.1 t11.2.2.2.1 hj, t1, t2, t3, t4, t5, t6, t7, t8, t9, ⟨r1, r2, r3, r4, r5, r6, ?_, r8, r9, r10, r11, r12, r13, r14, fun i hi => ?_, fun i h1 h2 => ?_⟩, t11, t12, t13, t14⟩
  · show upd (X 34) _ p3 = upd (M 70) _ p3
    rw [r7]
  · show (upd (X 33) j p2 i = -1 ∧ upd (M 69) j 1 i = 0) ∨ ∃ d, d < 6 ∧ upd (X 33) j p2 i = nI d ∧ upd (M 69) j 1 i = 1 ∧ bt (X 32 i) d = true
    rw [upd_at, upd_at]
    by_cases e : i = j
    · rw [if_pos e, if_pos e]
      exact Or.inr ⟨c, hcc, ec, rfl, by rw [e]; exact hbt⟩
    · rw [if_neg e, if_neg e]
      exact r15 i hi
  · show upd (M 69) j 1 i = 0
    rw [upd_at, if_neg (by omega)]
    exact r16 i h1 h2
end
theorem ich_45 : isCh (45 : Int32) := ⟨by decide, by decide⟩
theorem ich_0 : isCh (0 : Int32) := ⟨by decide, by decide⟩
section
variable {v z z5 z8 zs : Nat} {X M : XF} {J : Nat → Int64}
/-- a count begun -/
theorem o_begin (h : Rel v z z5 z8 zs X M J) (p1 p2 p3 : Int32) (hc : xk_begin (X 118 0) p1 p2 p3 = 0) : X 101 0 - p1 = M 101 0 - p1 ∧ Rel v z z5 z8 zs (bg_X z z8 p1 p2 p3 X) (mb_M z8 p1 M) (sl (sl J 0 ((M 101 0).toInt64 + p2.toInt64)) 1 ((M 101 0).toInt64 + p3.toInt64)) ∧ ltOk [67] X (bg_X z z8 p1 p2 p3 X) ∧ md_ic (X 118 0) = 0 := by
  obtain ⟨t1, t2, t3, t4, t5, t6, t7, t8, t9, t10, t11, t12, t13, t14⟩ := h
  obtain ⟨a1, a2, a3, a4, a5, a6, a7, a8, a9, a10, a11, a12, a13, a14, a15, a16, a17, a18⟩ := t11
  obtain ⟨b1, b2, b3, b4⟩ := t12
  obtain ⟨s1, s2, s3, s4, s5, s6, s7, s8, s9, s10, s11, s12⟩ := t2
  unfold xk_begin at hc
  obtain ⟨c1, hc⟩ := i0 hc
  obtain ⟨c2, hc⟩ := i0 hc
  obtain ⟨c3, hc⟩ := i0 hc
  have hpf : xk_pf (X 118 0) = 0 := by
    by_cases q : xk_pf (X 118 0) = 0
    · exact q
    · rw [if_neg q] at hc; exact absurd hc (by decide)
  obtain ⟨hic, hl⟩ := pf_0 hpf
  have d1 := inr_iff.mp c1
  have d2 := inr_iff.mp c2
  have d3 := inr_iff.mp c3
  have z6 : (-600 : Int32).toInt = -600 := rfl
  have z7 : (-10 : Int32).toInt = -10 := rfl
  have z8' : (0 : Int32).toInt = 0 := rfl
  have z9 : (5000 : Int32).toInt = 5000 := rfl
  have e16 := b3 hl
  refine ⟨by rw [a1, a2], ⟨t1, ⟨s1, s2, s3, s4, ?_, s6, s7, s8, fun i => ?_, s10, fun i hi => ?_, s12⟩, t3, t4, t5, t6, t7, t8, t9, R_rl.end t10, ⟨a1, a2, rfl, rfl, rfl, rfl, rfl, Or.inl ⟨rfl, rfl⟩, fun q => absurd q (fun w => w (by decide : md_hc (99 : Int32) = 0)), ?_, ?_, rfl, Or.inr (Or.inl rfl), a14, a15, ich_45, ich_0, ich_0⟩, ⟨fun _ => ?_, fun q => absurd q (show ¬ (99 : Int32) = 102 by decide), fun _ => e16, fun q => absurd (show md_hl 99 = 0 by decide) q⟩, t13, t14⟩, lt_one rfl (show (99 : Int32) = st_of (nI 67) by decide), hic⟩
  · show sp_again (X 12) z8 = ms_ag (M 51) z8
    rw [again_eq, s5]
  · show isCh (sp_again (X 12) z8 i)
    rw [again_at]
    split
    · exact ⟨by decide, by decide⟩
    · exact s9 i
  · show sp_again (X 12) z8 i = 114 → _
    rw [again_at, if_pos hi]
    intro q
    exact absurd q (by decide)
  · show (X 101 0 + p2).toInt64 = (M 101 0).toInt64 + p2.toInt64
    rw [a1, a2]
    exact sum64 (by omega) (by omega)
  · show (X 101 0 + p3).toInt64 = (M 101 0).toInt64 + p3.toInt64
    rw [a1, a2]
    exact sum64 (by omega) (by omega)
  · show -600 ≤ p1.toInt ∧ p1.toInt ≤ -1
    omega
/-- the count set back -/
theorem o_rec (h : Rel v z z5 z8 zs X M J) (p1 : Int32) (hc : xk_rec (X 14) z5 (X 118 0) (X 106 0) p1 = 0) : sp_undoN (X 8) (X 12) (X 14 p1.toNatClampNeg) z8 = gr_n (M 48) (M 51) (M 53 p1.toNatClampNeg) z8 ∧ Rel v z z5 z8 zs (rc_X z z8 p1.toNatClampNeg X) (mr_M z8 p1.toNatClampNeg M) J ∧ ltOk [82] X (rc_X z z8 p1.toNatClampNeg X) ∧ ¬ md_ic (X 118 0) = 0 := by
  obtain ⟨t1, t2, t3, t4, t5, t6, t7, t8, t9, t10, t11, t12, t13, t14⟩ := h
  obtain ⟨a1, a2, a3, a4, a5, a6, a7, a8, a9, a10, a11, a12, a13, a14, a15, a16, a17, a18⟩ := t11
  obtain ⟨b1, b2, b3, b4⟩ := t12
  obtain ⟨s1, s2, s3, s4, s5, s6, s7, s8, s9, s10, s11, s12⟩ := t2
  obtain ⟨m1, m2, m3, m4, m5, m6, m7, m8, m9⟩ := t3
  unfold xk_rec at hc
  obtain ⟨c1, hc⟩ := i0 hc
  obtain ⟨c2, hc⟩ := i0' (by decide) hc
  have hlt : X 14 p1.toNatClampNeg < X 106 0 := by
    by_cases q : X 14 p1.toNatClampNeg < X 106 0
    · exact q
    · rw [if_neg q] at hc; exact absurd hc (by decide)
  obtain ⟨j, hj, ej, ecj⟩ := ix_of (n := z5) (by omega) c1
  have hat := b1 c2
  have lt1 := Int32.lt_iff_toInt_lt.mp hlt
  rw [ecj] at lt1 ⊢
  have m9' := m9 j hj
  have hl0 : md_hl (X 118 0) = 0 := by rcases ic_of c2 with e | e <;> rw [e] <;> decide
  have hb1 : M 103 0 = 1 := by rw [a12]; rcases ic_of c2 with e | e <;> rw [e] <;> decide
  have e16 := b3 hl0
  have u := undo_eq (X 8) (X 12) (X 14 j) z8
  refine ⟨by rw [u.2, s1, s5, m1], ⟨t1, ⟨s1, s2, s3, s4, ?_, s6, s7, s8, fun i => ?_, s10, fun i hi => ?_, s12⟩, ⟨m1, m2, m3, m4, m5, m6, m7, m8, m9⟩, t4, t5, t6, t7, t8, t9, R_rl.end t10, ⟨a1, a2, rfl, ?_, a5, rfl, a7, a8, fun q => absurd q (fun w => w (by decide : md_hc (99 : Int32) = 0)), a10, a11, ?_, Or.inr (Or.inl rfl), a14, a15, a16, ich_0, a18⟩, ⟨fun _ => ?_, fun q => absurd q (show ¬ (99 : Int32) = 102 by decide), fun _ => e16, fun q => absurd (show md_hl 99 = 0 by decide) q⟩, t13, t14⟩, lt_one rfl (show (99 : Int32) = st_of (nI 82) by decide), c2⟩
  · show sp_undo (X 8) (X 12) (X 14 j) z8 = gr_s (M 48) (M 51) (M 53 j) z8
    rw [u.1, s1, s5, m1]
  · show isCh (sp_undo (X 8) (X 12) (X 14 j) z8 i)
    rw [u.1]
    exact undo_ch _ _ _ s9 z8 i
  · show sp_undo (X 8) (X 12) (X 14 j) z8 i = 114 → 1 ≤ (X 10 i).toInt
    rw [u.1]
    exact fun q => s11 i hi (undo_114 _ _ _ z8 i q)
  · show X 14 j = M 53 j
    rw [m1]
  · show M 103 0 = (if (99 : Int32) = 45 then 0 else 1)
    rw [hb1]
    rfl
  · show -600 ≤ (X 14 j).toInt ∧ (X 14 j).toInt ≤ -1
    omega
/-- called off from outside -/
theorem o_scrub (h : Rel v z z5 z8 zs X M J) : (if md_ic (X 118 0) = 0 then (0 : Int32) else 1) = md_ic (M 102 0) ∧ Rel v z z5 z8 zs (sb_A X).1 (ms_A M).1 J ∧ (sb_A X).2 = (ms_A M).2 ∧ ltOk (sb_A X).2 X (sb_A X).1 ∧ (∀ c ∈ (sb_A X).2, sgn c) ∧ (sb_A X).2.length + ci ((sb_A X).1 118 0) ≤ 1 + ci (X 118 0) := by
  have hh := h
  obtain ⟨t1, t2, t3, t4, t5, t6, t7, t8, t9, t10, t11, t12, t13, t14⟩ := h
  have es := t11.2.2.1
  unfold sb_A ms_A
  rw [← es]
  by_cases hic : md_ic (X 118 0) = 0
  · rw [if_pos hic, if_pos hic, if_pos hic]
    exact ⟨hic.symm, ⟨t1, t2, t3, t4, t5, t6, t7, t8, t9, t10, t11, t12, t13, t14⟩, rfl, lt_nil rfl rfl, (fun c hc => by cases hc), (by show 0 + ci (X 118 0) ≤ _; omega)⟩
  · rw [if_neg hic, if_neg hic, if_neg hic]
    have hl0 : md_hl (X 118 0) = 0 := by rcases ic_of hic with e | e <;> rw [e] <;> decide
    have o := off_eq (c := 99) (r := -1) (c' := 99) (r' := -1) t11 hic (t12.2.2.1 hl0) ⟨by decide, by decide⟩ rfl rfl
    refine ⟨?_, ⟨t1, t2, t3, t4, t5, t6, t7, t8, t9, t10, o.1, o.2, t13, t14⟩, rfl, lt_one rfl (show (115 : Int32) = st_of (nI 83) by decide), fun c hc => ?_, ?_⟩
    · rcases ic_of hic with e | e <;> rw [e] <;> decide
    · cases List.mem_singleton.mp hc
      exact ⟨by decide, by decide⟩
    · have e1 : ci (X 118 0) = 1 := if_neg hic
      rw [e1]
      show 1 + ci 115 ≤ 1 + 1
      decide
/-- a lightning near by -/
theorem li_strike {v zs : Nat} {X M X' M' : XF} (h : R_li v zs X M) (e1 : X' 104 0 = X 104 0 + 1) (e2 : X' 21 = upd (X 21) (v % 600) (X 21 (v % 600) + 1)) (e3 : M' 116 0 = M 116 0 + 1) (e4 : ∀ i, i < zs → M' 58 i = M 58 i) (e5 : M' 58 zs = nI v) : R_li v (zs + 1) X' M' := by
  obtain ⟨h1, g, h2, h3, h4⟩ := h
  refine ⟨by rw [e3, h1, nI_1], fun i => if i = zs then v else g i, fun i hi => ?_, ?_, fun k hk => ?_⟩
  · by_cases q : i = zs
    · simp only [if_pos q]
      rw [q]
      exact ⟨e5, Nat.le_refl v⟩
    · simp only [if_neg q]
      rw [e4 i (by omega)]
      exact h2 i (by omega)
  · show X' 104 0 = nI (nr _ zs + _)
    rw [e1, h3]
    have a : nr (fun i => decide (v < (if i = zs then v else g i) + 600)) zs = nr (fun i => decide (v < g i + 600)) zs := nr_cong (fun i hi => by simp only [if_neg (show ¬ i = zs by omega)])
    rw [a]
    simp
    exact nI_1 _
  · show X' 21 k = nI (nr _ zs + _)
    rw [e2, upd_at]
    have a : nr (fun i => decide ((if i = zs then v else g i) % 600 = k ∧ v < (if i = zs then v else g i) + 600)) zs = nr (fun i => decide (g i % 600 = k ∧ v < g i + 600)) zs := nr_cong (fun i hi => by simp only [if_neg (show ¬ i = zs by omega)])
    rw [a]
    by_cases hk' : k = v % 600
    · rw [if_pos hk', h4 _ (by rw [← hk']; exact hk), ← hk']
      simp [hk'.symm]
      exact nI_1 _
    · rw [if_neg hk', h4 k hk]
      have : ¬ v % 600 = k := fun q => hk' q.symm
      simp [this]
/-- a rule more -/
theorem o_rule (h : Rel v z z5 z8 zs X M J) (p1 p2 p3 p4 p5 : Int32) (h1 : isCh p1) (ht : ¬ isTh p1 p2 = 0) (hz : z < 12) : Rel v (z + 1) z5 z8 zs (si (sa (sa (sa (sa (sa (sa X 25 (upd (X 25) z p1)) 26 (upd (X 26) z p2)) 27 (upd (X 27) z p3)) 28 (upd (X 28) z p4)) 29 (upd (X 29) z p5)) 33 (upd (X 33) z (-1))) 105 (nI z + 1)) (si (sa (sa (sa (sa (sa (si M 100 0) 63 (upd (M 63) z p1)) 64 (upd (M 64) z p2)) 65 (upd (M 65) z p3)) 66 (upd (M 66) z p4)) 67 (upd (M 67) z p5)) 117 (nI z + 1)) J := by
  obtain ⟨t1, t2, t3, t4, t5, t6, t7, t8, t9, t10, t11, t12, t13, t14⟩ := h
  obtain ⟨r1, r2, r3, r4, r5, r6, r7, r8, r9, r10, r11, r12, r13, r14, r15, r16⟩ := t10
  have hth : okAb p1 p2 ∧ ¬ p1 = 0 ∧ ¬ p1 = 45 := by
    unfold isTh at ht
    by_cases k1 : p1 = 116
    · rw [if_pos k1] at ht
      obtain ⟨j, hj, e, -⟩ := ix_of (n := 3) (by decide) ht
      refine ⟨⟨fun _ => ⟨j, hj, e⟩, fun q => ?_, fun _ _ _ q _ => absurd k1 q⟩, ?_, ?_⟩ <;> rw [k1] at * <;> first | decide | exact absurd q (by decide)
    · rw [if_neg k1] at ht
      by_cases k2 : p1 = 115
      · rw [if_pos k2] at ht
        obtain ⟨j, hj, e, -⟩ := ix_of (n := 3) (by decide) ht
        refine ⟨⟨fun q => absurd q k1, fun _ => ⟨j, hj, e⟩, fun _ _ q _ _ => absurd k2 q⟩, ?_, ?_⟩ <;> rw [k2] <;> decide
      · rw [if_neg k2] at ht
        by_cases k3 : p1 = 103
        · rw [if_pos k3] at ht
          obtain ⟨j, hj, e, -⟩ := ix_of (n := 6) (by decide) ht
          refine ⟨⟨fun q => absurd q k1, fun q => absurd q k2, fun _ _ _ _ _ => ⟨j, hj, e⟩⟩, ?_, ?_⟩ <;> rw [k3] <;> decide
        · rw [if_neg k3] at ht
          by_cases k4 : p1 = 119
          · refine ⟨⟨fun q => absurd q k1, fun q => absurd q k2, fun _ _ _ _ q => absurd k4 q⟩, ?_, ?_⟩ <;> rw [k4] <;> decide
          · rw [if_neg k4] at ht
            by_cases k5 : p1 = 108
            · refine ⟨⟨fun q => absurd q k1, fun q => absurd q k2, fun _ q _ _ _ => absurd k5 q⟩, ?_, ?_⟩ <;> rw [k5] <;> decide
            · rw [if_neg k5] at ht
              by_cases k6 : p1 = 98
              · refine ⟨⟨fun q => absurd q k1, fun q => absurd q k2, fun q _ _ _ _ => absurd k6 q⟩, ?_, ?_⟩ <;> rw [k6] <;> decide
              · rw [if_neg k6] at ht
                exact absurd rfl ht
  refine ⟨t1, t2, t3, t4, t5, t6, t7, t8, t9, ⟨?_, ?_, ?_, ?_, ?_, r6, r7, nI_1 _, nI_1 _, by omega, fun i => ?_, fun i hi => ?_, fun i hi => ?_, r14, fun i hi => ?_, fun i h1 h2 => r16 i (by omega) h2⟩, t11, t12, t13, t14⟩
  · show upd (X 25) z p1 = upd (M 63) z p1
    rw [r1]
  · show upd (X 26) z p2 = upd (M 64) z p2
    rw [r2]
  · show upd (X 27) z p3 = upd (M 65) z p3
    rw [r3]
  · show upd (X 28) z p4 = upd (M 66) z p4
    rw [r4]
  · show upd (X 29) z p5 = upd (M 67) z p5
    rw [r5]
  · show isCh (upd (X 25) z p1 i)
    rw [upd_at]
    split
    · exact h1
    · exact r11 i
  · show okAb (upd (X 25) z p1 i) (upd (X 26) z p2 i)
    rw [upd_at, upd_at]
    by_cases e : i = z
    · rw [if_pos e, if_pos e]; exact hth.1
    · rw [if_neg e, if_neg e]; exact r12 i (by omega)
  · show ¬ upd (X 25) z p1 i = 0 ∧ ¬ upd (X 25) z p1 i = 45
    rw [upd_at]
    by_cases e : i = z
    · rw [if_pos e]; exact hth.2
    · rw [if_neg e]; exact r13 i (by omega)
  · show (upd (X 33) z (-1) i = -1 ∧ M 69 i = 0) ∨ ∃ c, c < 6 ∧ upd (X 33) z (-1) i = nI c ∧ M 69 i = 1 ∧ bt (X 32 i) c = true
    rw [upd_at]
    by_cases e : i = z
    · rw [if_pos e]
      exact Or.inl ⟨rfl, by rw [e]; exact r16 z (Nat.le_refl z) hz⟩
    · rw [if_neg e]; exact r15 i (by omega)
end
