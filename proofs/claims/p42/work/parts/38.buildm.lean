/-! rows on bits, shifts and unsigned numbers, to paste: each family out of a closed proof of our own, whole with what it rests on; each by itself clean at Lean in its own claim (generation 39, form 5). Take a family whole -/
/-! ===== Int32 by its bits: bt x i ===== -/
def bt (x : Int32) (i : Nat) : Bool := x.toBitVec.getLsbD i
theorem b_ext {x y : Int32} (h : ∀ i, i < 32 → bt x i = bt y i) : x = y := Int32.toBitVec_inj.mp (BitVec.eq_of_getLsbD_eq (fun i hi => h i hi))
theorem b_or (x y : Int32) (i : Nat) : bt (x ||| y) i = (bt x i || bt y i) := by unfold bt; rw [Int32.toBitVec_or, BitVec.getLsbD_or]
theorem b_and (x y : Int32) (i : Nat) : bt (x &&& y) i = (bt x i && bt y i) := by unfold bt; rw [Int32.toBitVec_and, BitVec.getLsbD_and]
theorem b_xor (x y : Int32) (i : Nat) : bt (x ^^^ y) i = (bt x i ^^ bt y i) := by unfold bt; rw [Int32.toBitVec_xor, BitVec.getLsbD_xor]
theorem b_big {x : Int32} {i : Nat} (h : 32 ≤ i) : bt x i = false := BitVec.getLsbD_of_ge _ _ h
theorem b_255 (i : Nat) : bt 255 i = decide (i < 8) := by
  rcases Nat.lt_or_ge i 32 with h | h
  · exact (by decide +kernel : ∀ i, i < 32 → bt 255 i = decide (i < 8)) i h
  · rw [b_big h, decide_eq_false (by omega)]
theorem b_65535 (i : Nat) : bt 65535 i = decide (i < 16) := by
  rcases Nat.lt_or_ge i 32 with h | h
  · exact (by decide +kernel : ∀ i, i < 32 → bt 65535 i = decide (i < 16)) i h
  · rw [b_big h, decide_eq_false (by omega)]
theorem b_m1 : ∀ i, i < 32 → bt (-1) i = true := by decide +kernel
theorem b_0 (i : Nat) : bt 0 i = false := BitVec.getLsbD_zero
theorem s_l : ∀ n, n < 32 → ((nI n &&& 31).toBitVec.smod 32).toNat = n := by decide +kernel
theorem s_u : ∀ n, n < 32 → (((nI n).toUInt32 &&& Int32.toUInt32 31).toBitVec % 32).toNat = n := by decide +kernel
theorem b_shl (n : Nat) (hn : n < 32) (x : Int32) {i : Nat} (hi : i < 32) : bt (x <<< (nI n &&& 31)) i = (decide (n ≤ i) && bt x (i - n)) := by
  unfold bt
  rw [Int32.toBitVec_shiftLeft]
  show (x.toBitVec <<< ((nI n &&& 31).toBitVec.smod 32).toNat).getLsbD i = _
  rw [s_l n hn, BitVec.getLsbD_shiftLeft]
  rcases Nat.lt_or_ge i n with h | h
  · simp [h, Nat.not_le.mpr h]
  · simp [hi, h, Nat.not_lt.mpr h]
theorem b_ushr (n : Nat) (hn : n < 32) (x : Int32) (i : Nat) : bt ((x.toUInt32 >>> ((nI n).toUInt32 &&& Int32.toUInt32 31)).toInt32) i = bt x (n + i) := by
  show (x.toUInt32 >>> ((nI n).toUInt32 &&& Int32.toUInt32 31)).toBitVec.getLsbD i = x.toUInt32.toBitVec.getLsbD (n + i)
  rw [UInt32.toBitVec_shiftRight]
  show (x.toUInt32.toBitVec >>> (((nI n).toUInt32 &&& Int32.toUInt32 31).toBitVec % 32).toNat).getLsbD i = _
  rw [s_u n hn, BitVec.getLsbD_ushiftRight]
theorem b_sshr (n : Nat) (hn : n < 32) (x : Int32) {i : Nat} (hi : i < 32) : bt (x >>> (nI n &&& 31)) i = if n + i < 32 then bt x (n + i) else bt x 31 := by
  unfold bt
  rw [Int32.toBitVec_shiftRight]
  show (x.toBitVec.sshiftRight ((nI n &&& 31).toBitVec.smod 32).toNat).getLsbD i = _
  rw [s_l n hn, BitVec.getLsbD_sshiftRight, BitVec.msb_eq_getLsbD_last]
  simp [hi]
theorem b_shl8 (x : Int32) {i : Nat} (hi : i < 32) : bt (x <<< ((8 : Int32) &&& 31)) i = (decide (8 ≤ i) && bt x (i - 8)) := b_shl 8 (by omega) x hi
theorem b_shl16 (x : Int32) {i : Nat} (hi : i < 32) : bt (x <<< ((16 : Int32) &&& 31)) i = (decide (16 ≤ i) && bt x (i - 16)) := b_shl 16 (by omega) x hi
theorem b_shl24 (x : Int32) {i : Nat} (hi : i < 32) : bt (x <<< ((24 : Int32) &&& 31)) i = (decide (24 ≤ i) && bt x (i - 24)) := b_shl 24 (by omega) x hi
theorem b_sshr8 (x : Int32) {i : Nat} (hi : i < 32) : bt (x >>> ((8 : Int32) &&& 31)) i = if 8 + i < 32 then bt x (8 + i) else bt x 31 := b_sshr 8 (by omega) x hi/-! the plan is made: numbers -/
theorem bt_1 (i : Nat) (h : i < 32) : bt 1 i = decide (i = 0) := by
  have e : ∀ i : Fin 32, bt 1 i.val = decide (i.val = 0) := by decide +kernel
  exact e ⟨i, h⟩
theorem may_bit {c : Nat} (hc : c < 6) (x : Int32) : rl_may (x ||| (1 <<< (nI c &&& 31))) (nI c) = 1 := by
  unfold rl_may
  refine if_pos (b_ext (fun i hi => ?_))
  rw [b_and, b_sshr c (by omega) _ hi, bt_1 i hi]
  by_cases h : i = 0
  · subst h
    rw [if_pos (by omega), b_or, b_shl c (by omega) _ (by omega), Nat.add_zero, Nat.sub_self, bt_1 0 (by decide)]
    simp
  · simp [h]
theorem tank_ok {j a b c : Nat} (hj : j < 3) (ha : a < 400) (hb : b < 30) (hc : c < 40) : xk_tank (nI j) (nI a) (nI b) (nI c) = 0 := by
  have e1 : ∀ p : Fin 400, inr 0 100000 (nI p.val) = 1 := by decide +kernel
  have e2 : ∀ p : Fin 30, inr 0 1000 (nI p.val) = 1 := by decide +kernel
  have e3 : ∀ p : Fin 40, inr 0 100 (nI p.val) = 1 := by decide +kernel
  unfold xk_tank
  rw [show bel (nI j) 3 = 1 from bel1 hj (by decide), e1 ⟨a, ha⟩, e2 ⟨b, hb⟩, e3 ⟨c, hc⟩, if_neg (by decide), if_neg (by decide), if_neg (by decide), if_neg (by decide)]
theorem step_ok {i a b : Nat} {st : Int32} (hi : i < 5) (ha : a < 16) (hb : b < 6) (hs : st = 45) : xk_step (nI i) st (-1 - nI a) (1 + nI b) = 0 := by
  have e1 : ∀ p : Fin 16, inr (-600) (-1) (-1 - nI p.val) = 1 := by decide +kernel
  have e2 : ∀ p : Fin 6, inr 1 300 (1 + nI p.val) = 1 := by decide +kernel
  subst hs
  unfold xk_step
  rw [e1 ⟨a, ha⟩, e2 ⟨b, hb⟩, if_neg (by decide), if_neg (by decide), if_neg (fun q => by
    have := (nI_leI (by decide) (by omega)).mp (show nI 16 ≤ nI i from q)
    omega), if_pos (by decide)]
theorem after_ok {i p : Nat} {st : Int32} (hi : i < 5) (hp : p < i) (hs : st = 45) : xk_after (nI (i + 1)) st (nI i) (nI p) = 0 := by
  subst hs
  unfold xk_after
  rw [bel1 (by omega) (by omega), bel1 (by omega) (by omega), if_neg (by decide), if_neg (by decide), if_pos (nI_lt hp (by omega)), if_pos (by decide)]
theorem rule_lo (sad : Nat → Nat) {i : Nat} (hi : i < 6) : ∃ m : Nat, m ≤ 7 ∧ lo_f sad i = nI m - 4 := by
  have h := pn_lt sad (41 + i) (m := 8) (by decide)
  unfold lo_f
  split
  · exact ⟨5, by decide, by decide⟩
  · exact ⟨_, by omega, rfl⟩
theorem rule_ok {sad : Nat → Nat} {i : Nat} (hi : i < 6) : xk_rule (nI i) (kndB.getD i 0) (nI (ab_f sad i)) (lo_f sad i) (hi_f sad i) (nI (pn sad (54 + i) 4)) = 0 := by
  have h1 := pn_lt sad 47 (m := 3) (by decide)
  have h2 := pn_lt sad (48 + i) (m := 800) (by decide)
  have h3 := pn_lt sad (54 + i) (m := 4) (by decide)
  obtain ⟨m, hm, em⟩ := rule_lo sad hi
  have hab : ab_f sad i < 3 := by
    unfold ab_f
    split
    · exact h1
    · decide
  have e1 : ∀ i : Fin 6, ∀ a : Fin 3, isTh (kndB.getD i.val 0) (nI a.val) = 1 := by decide +kernel
  have e2 : ∀ s : Fin 4, inr 0 300 (nI s.val) = 1 := by decide +kernel
  have e3 : ¬ hi_f sad i < lo_f sad i := by
    unfold hi_f
    rw [em]
    have e4 : ∀ m : Fin 8, (nI m.val - 4 : Int32).toInt = (m.val : Int) - 4 := by decide +kernel
    have e5 : ∀ m : Fin 8, nI m.val - 4 + 400 = nI (m.val + 396) := by decide +kernel
    rw [e5 ⟨m, by omega⟩, nI_add, Int32.lt_iff_toInt_lt, nI_toInt (by omega), e4 ⟨m, by omega⟩]
    show ¬ ((m + 396 + pn sad (48 + i) 800 : Nat) : Int) < (m : Int) - 4
    omega
  unfold xk_rule
  rw [e1 ⟨i, hi⟩ ⟨_, hab⟩, e2 ⟨_, h3⟩, if_neg (by decide), if_neg e3, if_neg (by decide), if_pos (show nI i < 12 from nI_lt (show i < 12 by omega) (by decide))]
theorem may_ok {i c : Nat} (hi : i < 6) (hc : c < 6) : xk_may (nI (i + 1)) (nI i) (nI c) = 0 := by
  unfold xk_may
  rw [bel1 (by omega) (by omega), show bel (nI c) 6 = 1 from bel1 hc (by decide), if_neg (by decide), if_neg (by decide)]
theorem kch : ∀ i : Nat, i < 6 → ((kndB.getD i 0).toUInt32 % 65536).toInt32 = kndB.getD i 0 ∧ (narrow .char (.int (kndB.getD i 0)) = .int (kndB.getD i 0) ∧ fits .char (.int (kndB.getD i 0)) = true) := by decide +kernel
theorem sh_hi (v : Int32) : ∀ (k : Nat) (c s t : Nat → Int32) (j : Nat), k < j → (mk_sh v k c s t).1.1 j = c j
  | 0, _, _, _, _, _ => rfl
  | k + 1, c, s, t, j, h => by
    unfold mk_sh
    split
    · rfl
    · rw [sh_hi v k _ _ _ j (by omega), pk_un (by omega)]
theorem sh_P (P : Int32 → Prop) (v : Int32) : ∀ (k : Nat) (c s t : Nat → Int32), (∀ j, j < k → P (c j)) → ∀ j, j ≤ k → j ≠ (mk_sh v k c s t).2 → P ((mk_sh v k c s t).1.1 j)
  | 0, c, s, t, _, j, h1, h2 => absurd (show j = 0 by omega) h2
  | k + 1, c, s, t, hP, j, h1, h2 => by
    by_cases q : c k ≤ v
    · have e : mk_sh v (k + 1) c s t = ((c, s, t), k + 1) := if_pos q
      rw [e] at h2 ⊢
      exact hP j (by have : j ≠ k + 1 := h2; omega)
    · have e : mk_sh v (k + 1) c s t = mk_sh v k (upd c (k + 1) (c k)) (upd s (k + 1) (s k)) (upd t (k + 1) (t k)) := if_neg q
      rw [e] at h2 ⊢
      by_cases e2 : j = k + 1
      · subst e2
        rw [sh_hi v k _ _ _ _ (Nat.lt_succ_self k), up_us]
        exact hP k (by omega)
      · exact sh_P P v k _ _ _ (fun i hi => by rw [pk_un (by omega)]; exact hP i (by omega)) j (by omega) h2
/-- what stands while the plan is made: tanks, steps, marks, rules so far -/
def B_tk (sad : Nat → Nat) (a : Nat) (X M : XF) : Prop := (∀ k : Nat, k < a → X 2 k = nI (pn sad k 400) ∧ X 3 k = nI (pn sad (3 + k) 30) ∧ X 4 k = nI (pn sad (6 + k) 40) ∧ M 44 k = X 2 k ∧ M 45 k = X 3 k ∧ M 46 k = X 4 k) ∧ (∀ k, X 5 k = 0) ∧ (∀ k, X 6 k = 0) ∧ ∀ k, M 47 k = 0
def B_sp (sad : Nat → Nat) (b : Nat) (X M : XF) : Prop := X 102 0 = nI b ∧ (∀ i, isCh (X 12 i)) ∧ M 102 0 = 0 ∧ ∀ k : Nat, k < b → X 12 k = 45 ∧ (hasOne sad k → ∃ β : Int32, X 11 k = β ||| (1 <<< (nI (pn sad (24 + k) k) &&& 31)))
def B_mk (c z5 : Nat) (X : XF) : Prop := X 103 0 = nI z5 ∧ z5 ≤ c ∧ c ≤ 3 ∧ ∀ j : Nat, j < z5 → -13 ≤ (X 14 j).toInt ∧ (X 14 j).toInt ≤ -2
def B_rl (sad : Nat → Nat) (d : Nat) (X M : XF) : Prop := X 105 0 = nI d ∧ (∀ j, isCh (X 25 j)) ∧ (∀ i, isBo (X 41 i)) ∧ ∀ j : Nat, j < d → X 25 j = kndB.getD j 0 ∧ X 26 j = nI (ab_f sad j) ∧ X 27 j = lo_f sad j ∧ X 28 j = hi_f sad j ∧ X 29 j = nI (pn sad (54 + j) 4) ∧ rl_may (X 32 j) (nI (pn sad (60 + j) 6)) = 1 ∧ X 33 j = -1 ∧ M 43 j = -9999
def B_0 (X M : XF) (K : KF) : Prop := X 100 0 = 0 ∧ X 104 0 = 0 ∧ (∀ j, X 21 j = 0) ∧ X 101 0 = 0 ∧ X 118 0 = 45 ∧ X 107 0 = 0 ∧ X 108 0 = 0 ∧ M 100 0 = 0 ∧ M 101 0 = 0 ∧ X 106 0 = 0 ∧ isCh (X 111 0) ∧ isCh (X 113 0) ∧ I_tx 0 0 X K
def Bd (sad : Nat → Nat) (a b c d z5 : Nat) (X M : XF) (K : KF) : Prop := B_tk sad a X M ∧ B_sp sad b X M ∧ B_mk c z5 X ∧ B_rl sad d X M ∧ B_0 X M K
section
variable {sad : Nat → Nat} {X M Y N : XF} {K : KF} {a b c d z5 : Nat}
theorem B_tk.of (h : B_tk sad a X M) (h2 : Y 2 = X 2) (h3 : Y 3 = X 3) (h4 : Y 4 = X 4) (h5 : Y 5 = X 5) (h6 : Y 6 = X 6) (m4 : N 44 = M 44) (m5 : N 45 = M 45) (m6 : N 46 = M 46) (m7 : N 47 = M 47) : B_tk sad a Y N := by
  unfold B_tk
  rw [h2, h3, h4, h5, h6, m4, m5, m6, m7]
  exact h
theorem B_sp.of (h : B_sp sad b X M) (h1 : Y 102 = X 102) (h2 : Y 12 = X 12) (h3 : Y 11 = X 11) (m1 : N 102 = M 102) : B_sp sad b Y N := by
  unfold B_sp
  rw [h1, h2, h3, m1]
  exact h
theorem B_mk.of (h : B_mk c z5 X) (h1 : Y 103 = X 103) (h2 : Y 14 = X 14) : B_mk c z5 Y := by
  unfold B_mk
  rw [h1, h2]
  exact h
theorem B_rl.of (h : B_rl sad d X M) (h0 : Y 105 = X 105) (h1 : Y 25 = X 25) (h2 : Y 26 = X 26) (h3 : Y 27 = X 27) (h4 : Y 28 = X 28) (h5 : Y 29 = X 29) (h6 : Y 32 = X 32) (h7 : Y 41 = X 41) (h8 : Y 33 = X 33) (m3 : N 43 = M 43) : B_rl sad d Y N := by
  unfold B_rl
  rw [h0, h1, h2, h3, h4, h5, h6, h7, h8, m3]
  exact h
theorem B_0.of (h : B_0 X M K) (h1 : Y 100 = X 100) (h2 : Y 104 = X 104) (h3 : Y 21 = X 21) (h4 : Y 101 = X 101) (h5 : Y 118 = X 118) (h6 : Y 107 = X 107) (h7 : Y 108 = X 108) (h8 : Y 106 = X 106) (h9 : Y 111 = X 111) (h10 : Y 113 = X 113) (h11 : Y 119 = X 119) (m0 : N 100 = M 100) (m1 : N 101 = M 101) : B_0 Y N K := by
  obtain ⟨a1, a2, a3, a4, a5, a6, a7, a8, a9, a10, a11, a12, a13⟩ := h
  refine ⟨by rw [h1]; exact a1, by rw [h2]; exact a2, by rw [h3]; exact a3, by rw [h4]; exact a4, by rw [h5]; exact a5, by rw [h6]; exact a6, by rw [h7]; exact a7, by rw [m0]; exact a8, by rw [m1]; exact a9, by rw [h8]; exact a10, by rw [h9]; exact a11, by rw [h10]; exact a12, a13.of (Nat.le_refl _) h5 h11⟩
theorem Bd.s45 (h : Bd sad a b c d z5 X M K) : X 118 0 = 45 := h.2.2.2.2.2.2.2.2.1
theorem Bd.x8 (h : Bd sad a b c d z5 X M K) : X 102 0 = nI b := h.2.1.1
theorem Bd.x5 (h : Bd sad a b c d z5 X M K) : X 103 0 = nI z5 := h.2.2.1.1
theorem Bd.x6 (h : Bd sad a b c d z5 X M K) : X 105 0 = nI d := h.2.2.2.1.1
theorem Bd.tank {i : Nat} (h : Bd sad i b c d z5 X M K) (hi : i < 3) : Bd sad (i + 1) b c d z5 (sa (sa (sa (sa X 2 (upd (X 2) i (nI (pn sad i 400)))) 3 (upd (X 3) i (nI (pn sad (3 + i) 30)))) 4 (upd (X 4) i (nI (pn sad (6 + i) 40)))) 5 (upd (X 5) i (tk_min (X 5 i) (nI (pn sad i 400))))) (sa (sa (sa M 44 (upd (M 44) i (nI (pn sad i 400)))) 45 (upd (M 45) i (nI (pn sad (3 + i) 30)))) 46 (upd (M 46) i (nI (pn sad (6 + i) 40)))) K := by
  obtain ⟨h1, h2, h3, h4, h5⟩ := h
  refine ⟨⟨fun k hk => ?_, fun k => ?_, h1.2.2.1, h1.2.2.2⟩, h2.of rfl rfl rfl rfl, h3.of rfl rfl, h4.of rfl rfl rfl rfl rfl rfl rfl rfl rfl rfl, h5.of rfl rfl rfl rfl rfl rfl rfl rfl rfl rfl rfl rfl rfl⟩
  · show upd (X 2) i (nI (pn sad i 400)) k = nI (pn sad k 400) ∧ upd (X 3) i (nI (pn sad (3 + i) 30)) k = nI (pn sad (3 + k) 30) ∧ upd (X 4) i (nI (pn sad (6 + i) 40)) k = nI (pn sad (6 + k) 40) ∧ upd (M 44) i (nI (pn sad i 400)) k = upd (X 2) i (nI (pn sad i 400)) k ∧ upd (M 45) i (nI (pn sad (3 + i) 30)) k = upd (X 3) i (nI (pn sad (3 + i) 30)) k ∧ upd (M 46) i (nI (pn sad (6 + i) 40)) k = upd (X 4) i (nI (pn sad (6 + i) 40)) k
    by_cases e : k = i
    · rw [e]
      simp only [up_us]
      exact ⟨trivial, trivial, trivial, trivial, trivial, trivial⟩
    · rw [pk_un e, pk_un e, pk_un e, pk_un e, pk_un e, pk_un e]
      exact h1.1 k (by omega)
  · show upd (X 5) i (tk_min (X 5 i) (nI (pn sad i 400))) k = 0
    by_cases e : k = i
    · rw [e, up_us, h1.2.1 i]
      unfold tk_min
      rw [if_neg (nI_pos (by have := pn_lt sad i (m := 400) (by decide); omega))]
    · rw [pk_un e]
      exact h1.2.1 k
theorem Bd.step {i : Nat} (h : Bd sad a i c d z5 X M K) (p q : Int32) (ho : ¬ hasOne sad i) : Bd sad a (i + 1) c d z5 (si (sa (sa (sa X 8 (upd (X 8) i p)) 9 (upd (X 9) i q)) 12 (upd (X 12) i 45)) 102 (nI i + 1)) M K := by
  obtain ⟨h1, h2, h3, h4, h5⟩ := h
  refine ⟨h1.of rfl rfl rfl rfl rfl rfl rfl rfl rfl, ⟨nI_1 i, fun k => ?_, h2.2.2.1, fun k hk => ?_⟩, h3.of rfl rfl, h4.of rfl rfl rfl rfl rfl rfl rfl rfl rfl rfl, h5.of rfl rfl rfl rfl rfl rfl rfl rfl rfl rfl rfl rfl rfl⟩
  · show isCh (upd (X 12) i 45 k)
    by_cases e : k = i
    · rw [e, up_us]; exact ⟨by decide, by decide⟩
    · rw [pk_un e]; exact h2.2.1 k
  · show upd (X 12) i 45 k = 45 ∧ (hasOne sad k → ∃ β : Int32, X 11 k = _)
    by_cases e : k = i
    · subst e
      exact ⟨up_us _ _ _, fun w => absurd w ho⟩
    · rw [pk_un e]
      exact h2.2.2.2 k (by omega)
theorem Bd.stepA {i : Nat} (h : Bd sad a i c d z5 X M K) (p q : Int32) : Bd sad a (i + 1) c d z5 (sa (si (sa (sa (sa X 8 (upd (X 8) i p)) 9 (upd (X 9) i q)) 12 (upd (X 12) i 45)) 102 (nI i + 1)) 11 (upd (X 11) i (X 11 i ||| (1 <<< (nI (pn sad (24 + i) i) &&& 31))))) M K := by
  obtain ⟨h1, h2, h3, h4, h5⟩ := h
  refine ⟨h1.of rfl rfl rfl rfl rfl rfl rfl rfl rfl, ⟨nI_1 i, fun k => ?_, h2.2.2.1, fun k hk => ?_⟩, h3.of rfl rfl, h4.of rfl rfl rfl rfl rfl rfl rfl rfl rfl rfl, h5.of rfl rfl rfl rfl rfl rfl rfl rfl rfl rfl rfl rfl rfl⟩
  · show isCh (upd (X 12) i 45 k)
    by_cases e : k = i
    · rw [e, up_us]; exact ⟨by decide, by decide⟩
    · rw [pk_un e]; exact h2.2.1 k
  · show upd (X 12) i 45 k = 45 ∧ (hasOne sad k → ∃ β : Int32, upd (X 11) i (X 11 i ||| (1 <<< (nI (pn sad (24 + i) i) &&& 31))) k = _)
    by_cases e : k = i
    · subst e
      exact ⟨up_us _ _ _, fun _ => ⟨X 11 k, up_us _ _ _⟩⟩
    · rw [pk_un e, pk_un e]
      exact h2.2.2.2 k (by omega)
theorem Bd.noMark {i : Nat} (h : Bd sad a b i d z5 X M K) (hi : i < 3) : Bd sad a b (i + 1) d z5 X M K := ⟨h.1, h.2.1, ⟨h.2.2.1.1, by have := h.2.2.1.2.1; omega, by omega, h.2.2.1.2.2.2⟩, h.2.2.2⟩
theorem Bd.mark {i : Nat} (h : Bd sad a b i d z5 X M K) (hi : i < 3) {p : Nat} (hp : p < 12) (q r : Int32) : Bd sad a b (i + 1) d (z5 + 1) (si (sa (sa (sa X 14 (upd (mk_sh (-2 - nI p) z5 (X 14) (X 15) (X 16)).1.1 (mk_sh (-2 - nI p) z5 (X 14) (X 15) (X 16)).2 (-2 - nI p))) 15 (upd (mk_sh (-2 - nI p) z5 (X 14) (X 15) (X 16)).1.2.1 (mk_sh (-2 - nI p) z5 (X 14) (X 15) (X 16)).2 q)) 16 (upd (mk_sh (-2 - nI p) z5 (X 14) (X 15) (X 16)).1.2.2 (mk_sh (-2 - nI p) z5 (X 14) (X 15) (X 16)).2 r)) 103 (nI z5 + 1)) M K := by
  obtain ⟨h1, h2, h3, h4, h5⟩ := h
  refine ⟨h1.of rfl rfl rfl rfl rfl rfl rfl rfl rfl, h2.of rfl rfl rfl rfl, ⟨nI_1 z5, by have := h3.2.1; omega, by omega, fun j hj => ?_⟩, h4.of rfl rfl rfl rfl rfl rfl rfl rfl rfl rfl, h5.of rfl rfl rfl rfl rfl rfl rfl rfl rfl rfl rfl rfl rfl⟩
  show -13 ≤ (upd (mk_sh (-2 - nI p) z5 (X 14) (X 15) (X 16)).1.1 (mk_sh (-2 - nI p) z5 (X 14) (X 15) (X 16)).2 (-2 - nI p) j).toInt ∧ (upd (mk_sh (-2 - nI p) z5 (X 14) (X 15) (X 16)).1.1 (mk_sh (-2 - nI p) z5 (X 14) (X 15) (X 16)).2 (-2 - nI p) j).toInt ≤ -2
  by_cases e : j = (mk_sh (-2 - nI p) z5 (X 14) (X 15) (X 16)).2
  · rw [e, up_us]
    have e1 : ∀ p : Fin 12, -13 ≤ (-2 - nI p.val : Int32).toInt ∧ (-2 - nI p.val : Int32).toInt ≤ -2 := by decide +kernel
    exact e1 ⟨p, hp⟩
  · rw [pk_un e]
    exact sh_P (fun x => -13 ≤ x.toInt ∧ x.toInt ≤ -2) _ z5 _ _ _ h3.2.2.2 j (by omega) e
theorem Bd.rule {i : Nat} (h : Bd sad a b c i z5 X M K) (hi : i < 6) : Bd sad a b c (i + 1) z5 (sa (si (sa (sa (sa (sa (sa (sa X 25 (upd (X 25) i (kndB.getD i 0))) 26 (upd (X 26) i (nI (ab_f sad i)))) 27 (upd (X 27) i (lo_f sad i))) 28 (upd (X 28) i (hi_f sad i))) 29 (upd (X 29) i (nI (pn sad (54 + i) 4)))) 33 (upd (X 33) i (-1))) 105 (nI i + 1)) 32 (upd (X 32) i (X 32 i ||| (1 <<< (nI (pn sad (60 + i) 6) &&& 31))))) (sa M 43 (upd (M 43) i (-9999))) K := by
  obtain ⟨h1, h2, h3, h4, h5⟩ := h
  refine ⟨h1.of rfl rfl rfl rfl rfl rfl rfl rfl rfl, h2.of rfl rfl rfl rfl, h3.of rfl rfl, ⟨nI_1 i, fun k => ?_, h4.2.2.1, fun k hk => ?_⟩, h5.of rfl rfl rfl rfl rfl rfl rfl rfl rfl rfl rfl rfl rfl⟩
  · show isCh (upd (X 25) i (kndB.getD i 0) k)
    by_cases e : k = i
    · rw [e, up_us]; exact (kch i hi).2
    · rw [pk_un e]; exact h4.2.1 k
  · show upd (X 25) i (kndB.getD i 0) k = kndB.getD k 0 ∧ upd (X 26) i (nI (ab_f sad i)) k = nI (ab_f sad k) ∧ upd (X 27) i (lo_f sad i) k = lo_f sad k ∧ upd (X 28) i (hi_f sad i) k = hi_f sad k ∧ upd (X 29) i (nI (pn sad (54 + i) 4)) k = nI (pn sad (54 + k) 4) ∧ rl_may (upd (X 32) i (X 32 i ||| (1 <<< (nI (pn sad (60 + i) 6) &&& 31))) k) (nI (pn sad (60 + k) 6)) = 1 ∧ upd (X 33) i (-1) k = -1 ∧ upd (M 43) i (-9999) k = -9999
    by_cases e : k = i
    · subst e
      simp only [up_us]
      exact ⟨trivial, trivial, trivial, trivial, trivial, may_bit (pn_lt _ _ (by decide)) _, trivial, trivial⟩
    · rw [pk_un e, pk_un e, pk_un e, pk_un e, pk_un e, pk_un e, pk_un e, pk_un e]
      exact h4.2.2.2 k (by omega)
theorem Bd.done (h : Bd sad 3 5 3 6 z5 X M K) (f : Nat → Int32) (hf : ∀ i, isBo (f i)) : IV sad 0 0 z5 (sa X 41 f) M K := by
  obtain ⟨h1, h2, h3, h4, ⟨a1, a2, a3, a4, a5, a6, a7, a8, a9, a10, a11, a12, a13⟩⟩ := h
  have z : (0 : Int32).toInt = 0 := rfl
  refine ⟨⟨fun k hk => ?_, fun i => ?_, fun i => ?_⟩, ⟨h2.1, h2.2.1, Or.inl h2.2.2.1, fun k hk => (h2.2.2.2 k hk).2, fun _ k hk _ => Or.inl (h2.2.2.2 k hk).1⟩, ⟨h3.1, by have := h3.2.1; omega, h3.2.2.2⟩, ⟨h4.1, h4.2.1, hf, fun j hj => ?_⟩, ⟨⟨0, by decide, a1⟩, ⟨0, Nat.le_refl _, a2⟩, fun j _ _ => a3 j⟩, ⟨a4, Or.inl a5, ⟨0, by omega, a6, a8⟩, ⟨0, by omega, a7, a9⟩, ?_, fun _ => ?_, a11, a12, fun q => absurd (show md_hl (X 118 0) = 0 by rw [a5]; decide) q⟩, a13.of (Nat.le_refl _) rfl rfl, by decide, by decide⟩
  · obtain ⟨t1, t2, t3, t4, t5, t6⟩ := h1.1 k hk
    refine ⟨t1, t2, t3, t4, t5, t6, ?_, 0, Nat.zero_le _, h1.2.1 k⟩
    show M 47 k = X 6 k
    rw [h1.2.2.2 k, h1.2.2.1 k]
  · show isBo (X 6 i)
    rw [h1.2.2.1 i]; exact isBo_0
  · show isBo (M 47 i)
    rw [h1.2.2.2 i]; exact isBo_0
  · obtain ⟨r1, r2, r3, r4, r5, r6, r7, r8⟩ := h4.2.2.2 j hj
    exact ⟨r1, r2, r3, r4, r5, r6, Or.inl ⟨r7, r8⟩⟩
  · show -21 ≤ (X 106 0).toInt ∧ (X 106 0).toInt ≤ ((0 : Nat) : Int)
    rw [a10, z]; decide
  · rename_i q
    exact absurd (show md_ic (X 118 0) = 0 by rw [a5]; decide) q
end
