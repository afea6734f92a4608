theorem gp_2_k' (z8 : Nat) (N : XF) {k : Nat} (h : k ≠ 51 ∧ k ≠ 52) : gp_2 z8 N k = N k := by
  unfold gp_2
  split
  · rfl
  · rw [sa_ne _ _ h.1, sa_ne _ _ h.2]
theorem ltOk.of {ls : List Nat} {X Y X' : XF} (h : ltOk ls Y X') (h1 : Y 119 0 = X 119 0) (h2 : Y 118 0 = X 118 0) : ltOk ls X X' := ⟨by rw [h.1, h1], fun q => (h.2.1 q).trans h2, h.2.2⟩
theorem ltOk.to {ls : List Nat} {X Y Y' : XF} (h : ltOk ls X Y) (h1 : Y' 119 0 = Y 119 0) (h2 : Y' 118 0 = Y 118 0) : ltOk ls X Y' := ⟨by rw [h1]; exact h.1, fun q => h2.trans (h.2.1 q), fun a c q => h2.trans (h.2.2 a c q)⟩
/-- the middle of a second: the count, the flight, or nothing -/
theorem mid_eq {v z z5 z8 zs : Nat} {X M : XF} {K : KF} (h : R_c0 v X M K.1) (h1 : R_c1 X M) (hv : v ≤ 100000) (h37 : X 37 = M 62) (hfs : ¬ md_ic (X 118 0) = 0 → fs_A X z = md_fn M K zs z 0) (hkp : (kp_A z5 z8 X = 0) = (gw_m M z5 z8 = 0)) (hz : z ≤ 12) (hk : X 25 = M 63) (hkind : ∀ i, i < z → ¬ X 25 i = 0 ∧ ¬ X 25 i = 45) (hch : ∀ i, isCh (X 25 i)) (hgood : fs_A X z = -1 → go_gd X z = 1) :
    R_c0 v (sc_4 v z z5 z8 X).1 (gp_4 v z zs z5 z8 K M).1 K.1 ∧ R_c1 (sc_4 v z z5 z8 X).1 (gp_4 v z zs z5 z8 K M).1 ∧ (sc_4 v z z5 z8 X).2 = (gp_4 v z zs z5 z8 K M).2 ∧ ltOk (sc_4 v z z5 z8 X).2 X (sc_4 v z z5 z8 X).1 := by
  have es := h.2.2.1
  by_cases hic : md_ic (X 118 0) = 0
  · by_cases hl : md_hl (X 118 0) = 0
    · have e1 : sc_4 v z z5 z8 X = (X, []) := by unfold sc_4; rw [if_pos hic, if_pos hl]
      have e2 : gp_4 v z zs z5 z8 K M = (M, []) := by
        unfold gp_4
        rw [← es, if_pos hic, if_neg (fun q => by rw [q] at hl; exact absurd hl (by decide)), if_pos hl]
      rw [e1, e2]
      exact ⟨h, h1, rfl, lt_nil rfl rfl⟩
    · have e1 : sc_4 v z z5 z8 X = fl_A X := by unfold sc_4; rw [if_pos hic, if_neg hl]
      by_cases h2 : X 118 0 = 102
      · have e2 : gp_4 v z zs z5 z8 K M = gf_A M := by unfold gp_4; rw [← es, if_pos hic, if_pos h2]
        rw [e1, e2]
        exact flight_eq h h1 h2 h37
      · have e2 : gp_4 v z zs z5 z8 K M = (si M 104 (M 104 0 + 1), []) := by unfold gp_4; rw [← es, if_pos hic, if_neg h2, if_neg hl]
        rw [e1, e2]
        exact after_eq h h1 hl h2
  · have e1 : sc_4 v z z5 z8 X = cn_A v z z5 z8 X := by unfold sc_4; rw [if_neg hic]
    have e2 : gp_4 v z zs z5 z8 K M = gc_A v z zs z5 z8 M K := by unfold gp_4; rw [← es, if_neg hic]
    rw [e1, e2]
    exact cnt_eq h h1 hic hv (hfs hic) hkp hz hk hkind hch hgood
set_option maxHeartbeats 1000000 in
theorem second_eq {v z z5 z8 zs : Nat} {X M : XF} {K : KF} (h : Rel v z z5 z8 zs X M K.1) (hv : v < 100000) : (sc_A v z z5 z8 X).2 = (gp_A v z zs z5 z8 M K).2 ∧ ltOk (sc_A v z z5 z8 X).2 X (sc_A v z z5 z8 X).1 ∧ Rel (v + 1) z z5 z8 zs (sc_A v z z5 z8 X).1 (gp_A v z zs z5 z8 M K).1 K.1 := by
  obtain ⟨t1, t2, t3, t4, t5, t6, t7, t8, t9, t10, t11, t12, t13, t14⟩ := h
  have x2 : ∀ k, k ≠ 5 ∧ k ≠ 10 ∧ k ≠ 12 → sc_2 z8 (sc_1 X) k = X k := fun k hk => sc_12 _ _ hk
  have m2 : ∀ k, k ≠ 46 ∧ k ≠ 51 ∧ k ≠ 52 → gp_2 z8 (gp_1 M) k = M k := fun k hk => gp_2_k _ _ hk
  have u1 : R_tk (sc_2 z8 (sc_1 X)) (gp_2 z8 (gp_1 M)) := t1.second.same (fun k hk => sc_2_k _ _ (by omega)) (fun k hk => gp_2_k' _ _ (by omega))
  have u2 : R_sp z8 (sc_2 z8 (sc_1 X)) (gp_2 z8 (gp_1 M)) := R_sp.second (X := sc_1 X) (M := gp_1 M) t2 t11.2.2.1 t11.2.2.2.1
  have u3 : R_mk z5 z8 (sc_2 z8 (sc_1 X)) (gp_2 z8 (gp_1 M)) := t3.same (fun k hk => x2 k (by omega)) (fun k hk => m2 k (by omega))
  have u4 : R_sn (sc_2 z8 (sc_1 X)) (gp_2 z8 (gp_1 M)) := t4.same (fun k hk => x2 k (by omega)) (fun k hk => m2 k (by omega))
  have u5 : R_bt (sc_2 z8 (sc_1 X)) (gp_2 z8 (gp_1 M)) := t5.same (x2 23 (by decide)) ⟨m2 59 (by decide), m2 60 (by decide)⟩
  have u6 : R_li v zs (sc_2 z8 (sc_1 X)) (gp_2 z8 (gp_1 M)) := t6.same ⟨x2 104 (by decide), x2 21 (by decide)⟩ ⟨m2 58 (by decide), m2 116 (by decide)⟩
  have u7 : sc_2 z8 (sc_1 X) 100 0 = gp_2 z8 (gp_1 M) 115 0 := by rw [x2 100 (by decide), m2 115 (by decide)]; exact t7
  have u8 : sc_2 z8 (sc_1 X) 41 = gp_2 z8 (gp_1 M) 61 := by rw [x2 41 (by decide), m2 61 (by decide)]; exact t8.1
  have b41 : ∀ i, isBo (sc_2 z8 (sc_1 X) 41 i) := fun i => by rw [x2 41 (by decide)]; exact t8.2 i
  have u10 : R_rl z (sc_2 z8 (sc_1 X)) (gp_2 z8 (gp_1 M)) := t10.same (fun k hk => x2 k (by omega)) (fun k hk => m2 k (by omega))
  have u11 : R_c0 v (sc_2 z8 (sc_1 X)) (gp_2 z8 (gp_1 M)) K.1 := t11.same (fun k hk => x2 k (by omega)) (fun k hk => m2 k (by omega))
  have u12 : R_c1 (sc_2 z8 (sc_1 X)) (gp_2 z8 (gp_1 M)) := t12.same (fun k hk => x2 k (by omega)) (m2 111 (by decide))
  have u9 : sc_2 z8 (sc_1 X) 37 = gp_2 z8 (gp_1 M) 62 := by rw [x2 37 (by decide), m2 62 (by decide)]; exact t9
  have x0 : ∀ k, k ≠ 5 ∧ k ≠ 10 ∧ k ≠ 12 ∧ k ≠ 30 ∧ k ≠ 31 → sc_3 z (sc_2 z8 (sc_1 X)) k = X k := fun k hk => sc_13 _ _ _ hk
  have m0 : ∀ k, k ≠ 46 ∧ k ≠ 51 ∧ k ≠ 52 ∧ k ≠ 68 → gp_3 z zs K (gp_2 z8 (gp_1 M)) k = M k := fun k hk => gp_3_k _ _ _ _ _ hk
  show (sc_4 v z z5 z8 (sc_3 z (sc_2 z8 (sc_1 X)))).2 = (gp_4 v z zs z5 z8 K (gp_3 z zs K (gp_2 z8 (gp_1 M)))).2 ∧ ltOk (sc_4 v z z5 z8 (sc_3 z (sc_2 z8 (sc_1 X)))).2 X (sc_5 v (sc_4 v z z5 z8 (sc_3 z (sc_2 z8 (sc_1 X)))).1) ∧ Rel (v + 1) z z5 z8 zs (sc_5 v (sc_4 v z z5 z8 (sc_3 z (sc_2 z8 (sc_1 X)))).1) (si (gp_4 v z zs z5 z8 K (gp_3 z zs K (gp_2 z8 (gp_1 M)))).1 101 (nI (v + 1))) K.1
  have q119 := x0 119 (by decide)
  have q118 := x0 118 (by decide)
  clear x0 m0 x2 m2 t1 t2 t3 t4 t5 t6 t7 t8 t9 t10 t11 t12
  generalize sc_2 z8 (sc_1 X) = A at *
  generalize gp_2 z8 (gp_1 M) = B at *
  have va : R_va v zs A B := ⟨u1, u4, u5, u6, u7, u8, u11.2.1, by omega⟩
  have lk := lk_eq K va u10 z (Nat.le_refl z)
  have w10 : R_rl z (sc_3 z A) (gp_3 z zs K B) := by
    obtain ⟨r1, r2, r3, r4, r5, r6, r7, r8, r9, r10, r11, r12, r13, r14, r15, r16⟩ := u10
    exact ⟨r1, r2, r3, r4, r5, lk.1, r7, r8, r9, r10, r11, r12, r13, r14, r15, r16⟩
  have va3 : R_va v zs (sc_3 z A) (gp_3 z zs K B) := va
  have h30 : ∀ j, j < z → sc_3 z A 30 j = cl_val (sc_3 z A) j := fun j hj => (lk.2 j hj).trans (cl_val_t A (lk_X A z).1 (lk_X A z).2 j).symm
  have w1 : R_tk (sc_3 z A) (gp_3 z zs K B) := u1
  have w2 : R_sp z8 (sc_3 z A) (gp_3 z zs K B) := u2
  have w3 : R_mk z5 z8 (sc_3 z A) (gp_3 z zs K B) := u3
  have w4 : R_sn (sc_3 z A) (gp_3 z zs K B) := u4
  have w5 : R_bt (sc_3 z A) (gp_3 z zs K B) := u5
  have w6 : R_li v zs (sc_3 z A) (gp_3 z zs K B) := u6
  have w7 : sc_3 z A 100 0 = gp_3 z zs K B 115 0 := u7
  have w8 : sc_3 z A 41 = gp_3 z zs K B 61 := u8
  have w9 : sc_3 z A 37 = gp_3 z zs K B 62 := u9
  have w11 : R_c0 v (sc_3 z A) (gp_3 z zs K B) K.1 := u11
  have w12 : R_c1 (sc_3 z A) (gp_3 z zs K B) := u12
  have w41 : ∀ i, isBo (sc_3 z A 41 i) := b41
  clear u1 u2 u3 u4 u5 u6 u7 u8 u9 u10 u11 u12 va lk b41
  generalize sc_3 z A = Y3 at *
  generalize gp_3 z zs K B = N3 at *
  have hz : z ≤ 12 := w10.2.2.2.2.2.2.2.2.2.1
  have mid := mid_eq (v := v) (z := z) (z5 := z5) (z8 := z8) (zs := zs) (K := K) w11 w12 (by omega) w9 (fun hic => first_eq K va3 w10 h30 (by
      rw [w11.2.2.2.2.2.2.2.2.2.2.2.1]
      rcases ic_of hic with e | e <;> rw [e] <;> decide) w11.2.2.2.1 z 0 (by omega)) (kp_gw w3 w2.2.2.2.2.1 w2.2.2.2.2.2.2.2.1 w11.2.2.2.1 w11.2.2.2.2.2.1) hz w10.1 w10.2.2.2.2.2.2.2.2.2.2.2.2.1 w10.2.2.2.2.2.2.2.2.2.2.1 (fun e => good_all w10 z 0 (by omega) e)
  have yk : ∀ k, uC k → (sc_4 v z z5 z8 Y3).1 k = Y3 k := fun k hk => sc_4_k _ _ _ _ _ hk
  have nk : ∀ k, uG k → (gp_4 v z zs z5 z8 K N3).1 k = N3 k := fun k hk => gp_4_k _ _ _ _ _ _ _ hk
  obtain ⟨d1, d2, d3, d4⟩ := mid
  generalize (sc_4 v z z5 z8 Y3).2 = ls at *
  generalize (sc_4 v z z5 z8 Y3).1 = Y at *
  generalize (gp_4 v z zs z5 z8 K N3).1 = N at *
  have xs : ∀ k, (k ≠ 21 ∧ k ≠ 101 ∧ k ≠ 104) ∧ uC k → sc_5 v Y k = Y3 k := fun k hk => (sc_5_k v Y hk.1).trans (yk k hk.2)
  have ms : ∀ k, k ≠ 101 ∧ uG k → si N 101 (nI (v + 1)) k = N3 k := fun k hk => (si_ne _ _ hk.1).trans (nk k hk.2)
  refine ⟨d3, (d4.of (by rw [q119]) (by rw [q118])).to rfl rfl, w1.same (fun k hk => xs k (by omega)) (fun k hk => ms k (by omega)), w2.same (fun k hk => xs k (by omega)) (fun k hk => ms k (by omega)), w3.same (fun k hk => xs k (by omega)) (fun k hk => ms k (by omega)), w4.same (fun k hk => xs k (by omega)) (fun k hk => ms k (by omega)), w5.same (xs 23 (by decide)) ⟨ms 59 (by decide), ms 60 (by decide)⟩, ?_, ?_, ⟨?_, ?_⟩, ?_, w10.same (fun k hk => xs k (by omega)) (fun k hk => ms k (by omega)), ?_, d2, by omega, t14⟩
  · exact R_li.second w6 (by omega) (by omega) (by rw [yk 104 (by decide)]) (yk 21 (by decide)) (ms 116 (by decide)) (ms 58 (by decide))
  · rw [xs 100 (by decide), ms 115 (by decide)]; exact w7
  · rw [xs 41 (by decide), ms 61 (by decide)]; exact w8
  · rw [xs 41 (by decide)]; exact w41
  · rw [xs 37 (by decide), ms 62 (by decide)]; exact w9
  · obtain ⟨a1, a2, a3, a4, a5, a6, a7, a8, a9, a10, a11, a12, a13, a14, a15, a16, a17, a18⟩ := d1
    exact ⟨rfl, rfl, a3, a4, a5, a6, a7, a8, a9, a10, a11, a12, a13, a14, a15, a16, a17, a18⟩
