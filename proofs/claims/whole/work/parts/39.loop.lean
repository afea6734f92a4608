/-! the law's loop: 6 ints a call -/
theorem and63 (x : Int32) : ∃ j : Nat, j < 64 ∧ x &&& 63 = nI j := by
  refine ⟨x.toBitVec.toNat % 64, Nat.mod_lt _ (by decide), Int32.toBitVec_inj.mp (BitVec.eq_of_toNat_eq ?_)⟩
  have e : (x &&& 63).toBitVec.toNat = x.toBitVec.toNat % 64 := by
    rw [Int32.toBitVec_and, BitVec.toNat_and]
    exact Nat.and_two_pow_sub_one_eq_mod x.toBitVec.toNat 6
  rw [e]
  show _ = (BitVec.ofNat 32 (x.toBitVec.toNat % 64)).toNat
  rw [BitVec.toNat_ofNat, Nat.mod_eq_of_lt (a := x.toBitVec.toNat % 64) (by omega)]
abbrev LL (G : MC) (b c : Nat) : List (Nat × Value) := [(0, .ref b), (1, .ref (gad G 0)), (2, .ref (gad G 42)), (3, .ref (gad G 74)), (4, .ref (gad G 75)), (5, .int (nI (6 * c)))]
set_option maxHeartbeats 1000000 in
theorem law_in {G : MC} {b Ln c : Nat} {xs : Nat → Int32} {v z z5 z8 zs : Nat} {X M : XF} {K : KF} {k n : Nat} (E : LawG G b Ln xs) (hcL : 6 * c + 6 ≤ Ln) (I : Inv c v z z5 z8 zs X M K) (hm : rmO c K k n) (kk : LwS G b c) : ∀ j : Nat, j < 39 → GH G (WX G X M K) (LL G b c) k n 45 [.int (nI j)]
  | 0, _ => g_tin E.1 dL_law_45 (off := 171) (tgt := 216) (by decide) (by decide) (by decide +kernel) (by decide) (lc_setTank E hcL I hm kk)
  | 1, _ => g_tin E.1 dL_law_45 (off := 263) (tgt := 308) (by decide) (by decide) (by decide +kernel) (by decide) (lc_setValve E hcL I hm kk)
  | 2, _ => g_tin E.1 dL_law_45 (off := 354) (tgt := 399) (by decide) (by decide) (by decide +kernel) (by decide) (lc_drain E hcL I hm kk)
  | 3, _ => g_tin E.1 dL_law_45 (off := 422) (tgt := 467) (by decide) (by decide) (by decide +kernel) (by decide) (lc_inTank E hcL I hm kk)
  | 4, _ => g_tin E.1 dL_law_45 (off := 478) (tgt := 523) (by decide) (by decide) (by decide +kernel) (by decide) (lc_addStep E hcL I hm kk)
  | 5, _ => g_tin E.1 dL_law_45 (off := 546) (tgt := 591) (by decide) (by decide) (by decide +kernel) (by decide) (lc_setAfter E hcL I hm kk)
  | 6, _ => g_tin E.1 dL_law_45 (off := 614) (tgt := 659) (by decide) (by decide) (by decide +kernel) (by decide) (lc_stepState E hcL I hm kk)
  | 7, _ => g_tin E.1 dL_law_45 (off := 670) (tgt := 715) (by decide) (by decide) (by decide +kernel) (by decide) (lc_addMark E hcL I hm kk)
  | 8, _ => g_tin E.1 dL_law_45 (off := 750) (tgt := 795) (by decide) (by decide) (by decide +kernel) (by decide) (lc_sense E hcL I hm kk)
  | 9, _ => g_tin E.1 dL_law_45 (off := 818) (tgt := 863) (by decide) (by decide) (by decide +kernel) (by decide) (lc_inhibit E hcL I hm kk)
  | 10, _ => g_tin E.1 dL_law_45 (off := 902) (tgt := 947) (by decide) (by decide) (by decide +kernel) (by decide) (lc_setWind E hcL I hm kk)
  | 11, _ => g_tin E.1 dL_law_45 (off := 958) (tgt := 1003) (by decide) (by decide) (by decide +kernel) (by decide) (lc_strike E hcL I hm kk)
  | 12, _ => g_tin E.1 dL_law_45 (off := 1014) (tgt := 1059) (by decide) (by decide) (by decide +kernel) (by decide) (lc_boat E hcL I hm kk)
  | 13, _ => g_tin E.1 dL_law_45 (off := 1094) (tgt := 1139) (by decide) (by decide) (by decide +kernel) (by decide) (lc_addRule E hcL I hm kk)
  | 14, _ => g_tin E.1 dL_law_45 (off := 1200) (tgt := 1245) (by decide) (by decide) (by decide +kernel) (by decide) (lc_mayWaive E hcL I hm kk)
  | 15, _ => g_tin E.1 dL_law_45 (off := 1275) (tgt := 1320) (by decide) (by decide) (by decide +kernel) (by decide) (lc_waive E hcL I hm kk)
  | 16, _ => g_tin E.1 dL_law_45 (off := 1362) (tgt := 1407) (by decide) (by decide) (by decide +kernel) (by decide) (lc_go E hcL I hm kk)
  | 17, _ => g_tin E.1 dL_law_45 (off := 1453) (tgt := 1498) (by decide) (by decide) (by decide +kernel) (by decide) (lc_value E hcL I hm kk)
  | 18, _ => g_tin E.1 dL_law_45 (off := 1509) (tgt := 1554) (by decide) (by decide) (by decide +kernel) (by decide) (lc_holdsFor E hcL I hm kk)
  | 19, _ => g_tin E.1 dL_law_45 (off := 1565) (tgt := 1610) (by decide) (by decide) (by decide +kernel) (by decide) (lc_isMet E hcL I hm kk)
  | 20, _ => g_tin E.1 dL_law_45 (off := 1628) (tgt := 1673) (by decide) (by decide) (by decide +kernel) (by decide) (lc_begin E hcL I hm kk)
  | 21, _ => g_tin E.1 dL_law_45 (off := 1708) (tgt := 1753) (by decide) (by decide) (by decide +kernel) (by decide) (lc_recycle E hcL I hm kk)
  | 22, _ => g_tin E.1 dL_law_45 (off := 1764) (tgt := 1809) (by decide) (by decide) (by decide +kernel) (by decide) (lc_scrub E hcL I hm kk)
  | 23, _ => g_tin E.1 dL_law_45 (off := 1777) (tgt := 1822) (by decide) (by decide) (by decide +kernel) (by decide) (lc_pass E hcL I hm kk)
  | 24, _ => g_tin E.1 dL_law_45 (off := 1833) (tgt := 1878) (by decide) (by decide) (by decide +kernel) (by decide) (lc_track E hcL I hm kk)
  | 25, _ => g_tin E.1 dL_law_45 (off := 1901) (tgt := 1946) (by decide) (by decide) (by decide +kernel) (by decide) (lc_state E hcL I hm kk)
  | 26, _ => g_tin E.1 dL_law_45 (off := 1914) (tgt := 1959) (by decide) (by decide) (by decide +kernel) (by decide) (lc_count E hcL I hm kk)
  | 27, _ => g_tin E.1 dL_law_45 (off := 1958) (tgt := 2003) (by decide) (by decide) (by decide +kernel) (by decide) (lc_second E hcL I hm kk)
  | 28, _ => g_tin E.1 dL_law_45 (off := 1971) (tgt := 2016) (by decide) (by decide) (by decide +kernel) (by decide) (lc_holds E hcL I hm kk)
  | 29, _ => g_tin E.1 dL_law_45 (off := 2015) (tgt := 2060) (by decide) (by decide) (by decide +kernel) (by decide) (lc_cause E hcL I hm kk)
  | 30, _ => g_tin E.1 dL_law_45 (off := 2059) (tgt := 2104) (by decide) (by decide) (by decide +kernel) (by decide) (lc_causeRule E hcL I hm kk)
  | 31, _ => g_tin E.1 dL_law_45 (off := 2103) (tgt := 2148) (by decide) (by decide) (by decide +kernel) (by decide) (lc_risk E hcL I hm kk)
  | 32, _ => g_tin E.1 dL_law_45 (off := 2116) (tgt := 2161) (by decide) (by decide) (by decide +kernel) (by decide) (lc_logLength E hcL I hm kk)
  | 33, _ => g_tin E.1 dL_law_45 (off := 2129) (tgt := 2174) (by decide) (by decide) (by decide +kernel) (by decide) (lc_logAt E hcL I hm kk)
  | 34, _ => g_tin E.1 dL_law_45 (off := 2185) (tgt := 2230) (by decide) (by decide) (by decide +kernel) (by decide) (lc_logged E hcL I hm kk)
  | 35, _ => g_tin E.1 dL_law_45 (off := 2212) (tgt := 2257) (by decide) (by decide) (by decide +kernel) (by decide) (lc_checksum E hcL I hm kk)
  | 36, _ => g_tin E.1 dL_law_45 (off := 2226) (tgt := 2271) (by decide) (by decide) (by decide +kernel) (by decide) (lc_metShare E hcL I hm kk)
  | 37, _ => g_tin E.1 dL_law_45 (off := 2292) (tgt := 2337) (by decide) (by decide) (by decide +kernel) (by decide) (lc_meanFill E hcL I hm kk)
  | 38, _ => g_tin E.1 dL_law_45 (off := 2357) (tgt := 2402) (by decide) (by decide) (by decide +kernel) (by decide) (lc_isSound E hcL I hm kk)
  | j + 39, h => absurd h (by omega)
theorem law_out {G : MC} {b Ln c : Nat} {xs : Nat → Int32} {v z z5 z8 zs : Nat} {X M : XF} {K : KF} {k n : Nat} (E : LawG G b Ln xs) (I : Inv c v z z5 z8 zs X M K) (hm : rmO c K k n) (kk : LwS G b c) {j : Nat} (hj : 39 ≤ j) (hj2 : j < 64) : GH G (WX G X M K) (LL G b c) k n 45 [.int (nI j)] := by
  refine g_tout E.1 dL_law_45 (tgt := 2415) (Or.inr ?_) (by decide) (kk _ _ _ _ _ _ _ _ _ _ I.same ?_)
  · rw [nI_toInt (by omega)]
    omega
  · obtain ⟨h1, h2⟩ := hm
    exact ⟨by omega, by omega⟩
/-- one turn: a call, or the end -/
theorem law_turn {G : MC} {b Ln c : Nat} {xs : Nat → Int32} {v z z5 z8 zs : Nat} {X M : XF} {K : KF} {k n : Nat} (E : LawG G b Ln xs) (hend : ∀ (c k n : Nat) (X M : XF) (K : KF), k ≤ 604801 → n ≤ 7193636 → GH G (WX G X M K) (LL G b c) k n 2421 []) (hc : c ≤ 512) (I : Inv c v z z5 z8 zs X M K) (hm : rmO c K k n) (kk : 6 * c + 6 ≤ Ln → LwS G b c) : GH G (WX G X M K) (LL G b c) k n 28 [] := by
  have C := E.1
  have E2 := E
  obtain ⟨-, -, -, hX, hb, hbA, hLn, hR, hL⟩ := E2
  refine g_iload C dL_law_28 5 rfl ?_
  refine g_aload_n C dL_law_30 0 rfl ?_
  refine g_slen C hX hb hbA dL_law_31 ?_
  refine g_bipush C dL_law_32 (v := 6) rfl ?_
  refine g_isub C dL_law_34 ?_
  refine g_icmp_gt C dL_law_35 (tgt := 2421) (by decide) (fun q => ?_) (fun q => ?_)
  · have hn := I.num hc
    obtain ⟨h1, h2⟩ := hm
    exact hend _ _ _ _ _ _ (by omega) (by omega)
  · have hcL : 6 * c + 6 ≤ Ln := by
      have e6 : (6 : Int32).toInt = 6 := rfl
      rw [Int32.lt_iff_toInt_lt, Int32.toInt_sub, nI_toInt (by omega), nI_toInt (by omega), e6, Int.bmod_def] at q
      split at q <;> omega
    refine g_aload_n C dL_law_38 0 rfl ?_
    refine g_iload C dL_law_39 5 rfl ?_
    refine g_scr C hX hb hbA (j := 6 * c) (by omega) (by omega) dL_law_41 ?_
    refine g_bipush C dL_law_42 (v := 63) rfl ?_
    refine g_iand C dL_law_44 ?_
    obtain ⟨j, hj, hx⟩ := and63 (xs (6 * c))
    refine g_topi hx ?_
    rcases Nat.lt_or_ge j 39 with h | h
    · exact law_in E hcL I hm (kk hcL) j h
    · exact law_out E I hm (kk hcL) h hj
theorem law_loop {G : MC} {b Ln : Nat} {xs : Nat → Int32} (E : LawG G b Ln xs) (hend : ∀ (c k n : Nat) (X M : XF) (K : KF), k ≤ 604801 → n ≤ 7193636 → GH G (WX G X M K) (LL G b c) k n 2421 []) : ∀ m c : Nat, c + m = 512 → ∀ (v z z5 z8 zs : Nat) (X M : XF) (K : KF) (k n : Nat), Inv c v z z5 z8 zs X M K → rmO c K k n → GH G (WX G X M K) (LL G b c) k n 28 []
  | 0, c, h, v, z, z5, z8, zs, X, M, K, k, n, I, hm => law_turn E hend (by omega) I hm (fun q => by
      have hLn : Ln ≤ 3072 := E.2.2.2.2.2.2.1
      omega)
  | m + 1, c, h, v, z, z5, z8, zs, X, M, K, k, n, I, hm => law_turn E hend (by omega) I hm (fun _ => by
      intro v z z5 z8 zs X M K k n I hm
      have C := E.1
      have hL : gL G = 9 := E.2.2.2.2.2.2.2.2
      refine g_iinc C dL_law_2415 5 rfl (v := nI (6 * (c + 1))) (nI_add (6 * c) 6) (L' := [(5, .int (nI (6 * (c + 1)))), (0, .ref b), (1, .ref (gad G 0)), (2, .ref (gad G 42)), (3, .ref (gad G 74)), (4, .ref (gad G 75))]) rfl (by rw [hL]; decide) ?_
      refine g_goto C dL_law_2418 (tgt := 28) (by decide) ?_
      exact g_sub [1, 2, 3, 4, 5, 0] rfl (law_loop E hend m (c + 1) (by omega) _ _ _ _ _ _ _ _ _ _ I hm))
