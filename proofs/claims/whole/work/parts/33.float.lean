/-! doubles with the sign plus that are no NaN: their bits are at most infinity's -/
def dk (x : UInt64) : Prop := x.toNat ≤ 9218868437227405312
theorem dk_n {x : UInt64} (h : dk x) : vf_n64 x := by
  unfold vf_n64
  rw [UInt64.le_iff_toNat_le, UInt64.toNat_and]
  exact Nat.le_trans Nat.and_le_left (Nat.le_trans h (Nat.le_of_ble_eq_true rfl))
theorem dk_of {n : Nat} (h : n ≤ 9218868437227405312) : dk (.ofNat n) := by
  show (UInt64.ofNat n).toNat ≤ _
  rw [UInt64.toNat_ofNat']
  exact Nat.le_trans (Nat.mod_le _ _) h
theorem b64_t : FP.Core.b64.tails = 4503599627370496 := by decide
theorem b64_e : FP.Core.b64.exps = 2048 := by decide
theorem b64_q : FP.Core.b64.qmin = -1074 := by decide
theorem b64_m : FP.Core.b64.qmax = 971 := by decide
theorem dk_dec {n : Nat} (h : n ≤ 9218868437227405312) : FP.Core.decode FP.Core.b64 n = .inf false ∨ ∃ c q, FP.Core.decode FP.Core.b64 n = .fin false c q := by
  have hs : FP.Core.fieldS FP.Core.b64 n = false := by
    unfold FP.Core.fieldS
    rw [b64_t, b64_e]
    have h0 : n / 4503599627370496 / 2048 = 0 := by omega
    rw [h0]
    rfl
  unfold FP.Core.decode
  rw [hs]
  by_cases h1 : FP.Core.fieldE FP.Core.b64 n = FP.Core.b64.exps - 1
  · rw [if_pos h1]
    have h2 : FP.Core.fieldT FP.Core.b64 n = 0 := by
      unfold FP.Core.fieldE at h1
      unfold FP.Core.fieldT
      rw [b64_t, b64_e] at h1
      rw [b64_t]
      omega
    rw [if_pos h2]
    exact Or.inl rfl
  · rw [if_neg h1]
    by_cases h0 : FP.Core.fieldE FP.Core.b64 n = 0
    · rw [if_pos h0]
      exact Or.inr ⟨_, _, rfl⟩
    · rw [if_neg h0]
      exact Or.inr ⟨_, _, rfl⟩
theorem dec_pos {n : Nat} (h1 : 4503599627370496 ≤ n) (h2 : n < 9218868437227405312) : ∃ c q, FP.Core.decode FP.Core.b64 n = .fin false c q ∧ ¬ c = 0 := by
  have hs : FP.Core.fieldS FP.Core.b64 n = false := by
    unfold FP.Core.fieldS
    rw [b64_t, b64_e]
    have h0 : n / 4503599627370496 / 2048 = 0 := by omega
    rw [h0]
    rfl
  have hE : ¬ FP.Core.fieldE FP.Core.b64 n = FP.Core.b64.exps - 1 := by
    unfold FP.Core.fieldE
    rw [b64_t, b64_e]
    omega
  have hZ : ¬ FP.Core.fieldE FP.Core.b64 n = 0 := by
    unfold FP.Core.fieldE
    rw [b64_t, b64_e]
    omega
  unfold FP.Core.decode
  rw [hs, if_neg hE, if_neg hZ]
  exact ⟨_, _, rfl, by rw [b64_t]; omega⟩
/-- a datum that the format holds, the sign plus -/
def gdt (d : FP.Core.Datum) : Prop := d = .inf false ∨ ∃ c q, d = .fin false c q ∧ c < 9007199254740992 ∧ q ≤ 971
theorem gdt_enc {d : FP.Core.Datum} (h : gdt d) : FP.Core.encode FP.Core.b64 d ≤ 9218868437227405312 := by
  rcases h with rfl | ⟨c, q, rfl, hc, hq⟩
  · exact Nat.le_of_ble_eq_true rfl
  · show (if c < FP.Core.b64.tails then FP.Core.assemble FP.Core.b64 false 0 c else FP.Core.assemble FP.Core.b64 false ((q - FP.Core.b64.qmin).toNat + 1) (c - FP.Core.b64.tails)) ≤ _
    unfold FP.Core.assemble
    rw [b64_t, b64_e, b64_q]
    have hf : Bool.toNat false = 0 := rfl
    rw [hf]
    split
    · omega
    · omega
theorem gdt_round (A B : Nat) (e : Int) : gdt (FP.Core.roundRatio FP.Core.b64 false A B e) := by
  unfold FP.Core.roundRatio
  split
  · exact Or.inr ⟨0, _, rfl, Nat.le_of_ble_eq_true rfl, by rw [b64_q]; decide⟩
  · unfold FP.Core.roundAt FP.Core.settle FP.Core.bound
    rw [b64_m, b64_t]
    have hp : (2 : Nat) ^ FP.Core.b64.p = 9007199254740992 := by decide
    rw [hp]
    split
    · rename_i hc
      split
      · rename_i hq
        exact Or.inr ⟨_, _, rfl, hc, hq⟩
      · exact Or.inl rfl
    · split
      · rename_i hq
        exact Or.inr ⟨_, _, rfl, Nat.le_of_ble_eq_true rfl, hq⟩
      · exact Or.inl rfl
theorem dk_add {a b : UInt64} (ha : dk a) (hb : dk b) : dk (FP.dadd a b) := by
  show dk (.ofNat (FP.Core.encode FP.Core.b64 (FP.Core.round FP.Core.b64 (FP.Core.exactSum (FP.Core.decode FP.Core.b64 a.toNat) (FP.Core.decode FP.Core.b64 b.toNat)))))
  refine dk_of (gdt_enc ?_)
  rcases dk_dec ha with e1 | ⟨c, q, e1⟩ <;> rcases dk_dec hb with e2 | ⟨d, r, e2⟩ <;> rw [e1, e2]
  · exact Or.inl rfl
  · exact Or.inl rfl
  · exact Or.inl rfl
  · have hs : FP.Core.sumSign false false (FP.Core.sumUnits false c q false d r (min q r)) = false := by
      have hv : 0 ≤ FP.Core.sumUnits false c q false d r (min q r) := by
        show (0 : Int) ≤ ((FP.Core.inUnits c q (min q r) : Nat) : Int) + ((FP.Core.inUnits d r (min q r) : Nat) : Int)
        omega
      unfold FP.Core.sumSign
      split
      · rfl
      · exact decide_eq_false (by omega)
    show gdt (FP.Core.roundRatio FP.Core.b64 (FP.Core.sumSign false false (FP.Core.sumUnits false c q false d r (min q r))) _ 1 _)
    rw [hs]
    exact gdt_round _ _ _
theorem dk_div {a b : UInt64} (ha : dk a) {d : Nat} {r : Int} (hb : FP.Core.decode FP.Core.b64 b.toNat = .fin false d r) (h0 : ¬ d = 0) : dk (FP.ddiv a b) := by
  show dk (.ofNat (FP.Core.encode FP.Core.b64 (FP.Core.quotient FP.Core.b64 (FP.Core.decode FP.Core.b64 a.toNat) (FP.Core.decode FP.Core.b64 b.toNat))))
  refine dk_of (gdt_enc ?_)
  rcases dk_dec ha with e1 | ⟨c, q, e1⟩ <;> rw [e1, hb]
  · exact Or.inl rfl
  · show gdt (if d = 0 then _ else FP.Core.roundRatio FP.Core.b64 (false != false) c d (q - r))
    rw [if_neg h0]
    exact gdt_round _ _ _
theorem dk_i2d {v : Int32} (h : 0 ≤ v.toInt) : dk (FP.i2d v) := by
  show dk (.ofNat (FP.Core.encode FP.Core.b64 (FP.Core.roundRatio FP.Core.b64 (decide (v.toInt < 0)) v.toInt.natAbs 1 0)))
  rw [decide_eq_false (show ¬ v.toInt < 0 by omega)]
  exact dk_of (gdt_enc (gdt_round _ _ _))
theorem enc_int {m : Nat} (h0 : ¬ m = 0) (hm : m < 2 ^ 31) : 4503599627370496 ≤ FP.Core.encode FP.Core.b64 (FP.Core.roundRatio FP.Core.b64 false m 1 0) ∧ FP.Core.encode FP.Core.b64 (FP.Core.roundRatio FP.Core.b64 false m 1 0) < 9218868437227405312 := by
  have hL : m.log2 < 31 := (Nat.log2_lt h0).mpr hm
  have hlo := Nat.log2_self_le h0
  have hhi := Nat.lt_log2_self (n := m)
  generalize hLm : m.log2 = L at hL hlo hhi
  obtain ⟨j, hj⟩ : ∃ j, 52 = L + j := ⟨52 - L, by omega⟩
  have c1 : 4503599627370496 ≤ m * 2 ^ j := by
    have := Nat.mul_le_mul_right (2 ^ j) hlo
    rw [← Nat.pow_add, ← hj] at this
    exact this
  have c2 : m * 2 ^ j < 9007199254740992 := by
    have := Nat.mul_lt_mul_of_pos_right hhi (Nat.two_pow_pos j)
    rw [← Nat.pow_add, show L + 1 + j = 53 by omega] at this
    exact this
  have p53 : FP.Core.b64.p = 53 := rfl
  have e1 : FP.Core.leading m 1 = (L : Int) := by
    unfold FP.Core.leading
    rw [hLm]
    have l1 : Nat.log2 1 = 0 := by decide
    rw [l1]
    show (if 1 * 2 ^ ((L : Int) - ((0 : Nat) : Int)).toNat ≤ m * 2 ^ (-((L : Int) - ((0 : Nat) : Int))).toNat then ((L : Int) - ((0 : Nat) : Int)) else ((L : Int) - ((0 : Nat) : Int)) - 1) = (L : Int)
    have t1 : ((L : Int) - ((0 : Nat) : Int)).toNat = L := by omega
    have t2 : (-((L : Int) - ((0 : Nat) : Int))).toNat = 0 := by omega
    rw [t1, t2, if_pos (by rw [Nat.one_mul, Nat.pow_zero, Nat.mul_one]; exact hlo)]
    omega
  have e2 : FP.Core.quantum FP.Core.b64 m 1 0 = (L : Int) - 52 := by
    unfold FP.Core.quantum
    rw [e1, b64_q, p53]
    omega
  have e3 : FP.Core.unitsNum m 0 ((L : Int) - 52) = m * 2 ^ j := by
    unfold FP.Core.unitsNum
    rw [show (0 - ((L : Int) - 52)).toNat = j by omega]
  have e4 : FP.Core.unitsDen 1 0 ((L : Int) - 52) = 1 := by
    unfold FP.Core.unitsDen
    rw [show (((L : Int) - 52) - 0).toNat = 0 by omega]
  have e5 : FP.Core.nearest (m * 2 ^ j) 1 = m * 2 ^ j := by
    unfold FP.Core.nearest
    rw [Nat.mod_one, if_pos (by decide), Nat.div_one]
  have e6 : FP.Core.roundRatio FP.Core.b64 false m 1 0 = .fin false (m * 2 ^ j) ((L : Int) - 52) := by
    unfold FP.Core.roundRatio
    rw [if_neg h0]
    unfold FP.Core.roundAt
    rw [e2, e3, e4, e5]
    unfold FP.Core.settle FP.Core.bound
    rw [p53, b64_m, if_pos (show m * 2 ^ j < 2 ^ 53 from c2), if_pos (by omega)]
  have e7 : FP.Core.encode FP.Core.b64 (.fin false (m * 2 ^ j) ((L : Int) - 52)) = (1023 + L) * 4503599627370496 + (m * 2 ^ j - 4503599627370496) := by
    show (if m * 2 ^ j < FP.Core.b64.tails then FP.Core.assemble FP.Core.b64 false 0 (m * 2 ^ j) else FP.Core.assemble FP.Core.b64 false (((L : Int) - 52 - FP.Core.b64.qmin).toNat + 1) (m * 2 ^ j - FP.Core.b64.tails)) = _
    rw [b64_t, if_neg (by omega)]
    unfold FP.Core.assemble
    rw [b64_t, b64_e, b64_q]
    have hf : Bool.toNat false = 0 := rfl
    rw [hf, show (((L : Int) - 52) - -1074).toNat + 1 = 1023 + L by omega, Nat.zero_mul, Nat.zero_add]
  rw [e6, e7]
  generalize m * 2 ^ j = c at c1 c2
  constructor <;> omega
theorem i2d_pos {v : Int32} (h : 0 < v.toInt) : ∃ d r, FP.Core.decode FP.Core.b64 (FP.i2d v).toNat = .fin false d r ∧ ¬ d = 0 := by
  have hv : v.toInt.natAbs < 2 ^ 31 := by
    have := v.toInt_lt
    omega
  have he := enc_int (m := v.toInt.natAbs) (by omega) hv
  have e : (FP.i2d v).toNat = FP.Core.encode FP.Core.b64 (FP.Core.roundRatio FP.Core.b64 false v.toInt.natAbs 1 0) := by
    show (UInt64.ofNat (FP.Core.encode FP.Core.b64 (FP.Core.roundRatio FP.Core.b64 (decide (v.toInt < 0)) v.toInt.natAbs 1 0))).toNat = _
    rw [decide_eq_false (show ¬ v.toInt < 0 by omega), UInt64.toNat_ofNat', Nat.mod_eq_of_lt (by omega)]
  rw [e]
  exact dec_pos he.1 he.2
theorem dk_eq {x : UInt64} (h : dk x) : FP.dcmp x x = some .eq := by
  show FP.Core.order (FP.Core.decode FP.Core.b64 x.toNat) (FP.Core.decode FP.Core.b64 x.toNat) = some .eq
  rcases dk_dec h with e | ⟨c, q, e⟩ <;> rw [e]
  · decide
  · show some (compare (FP.Core.signed false (FP.Core.inUnits c q (min q q))) (FP.Core.signed false (FP.Core.inUnits c q (min q q)))) = some .eq
    simp [compare, compareOfLessAndEq]
/-- the share of rules that are met: none of the values is a NaN -/
def fq (n r : Int32) : UInt32 := FP.fdiv (FP.i2f n) (FP.i2f r)
theorem fq_ok : ∀ n, n < 13 → ∀ r, r < 13 → r = 0 ∨ ((fq (nI n) (nI r) &&& 0x7fffffff ≤ 0x7f800000) ∧ (FP.f2d (fq (nI n) (nI r)) &&& 0x7fffffffffffffff ≤ 0x7ff0000000000000) ∧ FP.dcmp (FP.f2d (fq (nI n) (nI r))) (FP.f2d (fq (nI n) (nI r))) = some .eq) := by decide +kernel
theorem fq_n {n r : Nat} (hn : n ≤ r) (hr : r ≤ 12) (h0 : ¬ r = 0) : vf_n32 (fq (nI n) (nI r)) ∧ vf_n64 (FP.f2d (fq (nI n) (nI r))) ∧ FP.dcmp (FP.f2d (fq (nI n) (nI r))) (FP.f2d (fq (nI n) (nI r))) = some .eq := (fq_ok n (by omega) r (by omega)).resolve_left h0
/-- the sum of the shares -/
def fs_n (a r : Nat → Int32) : Nat → UInt64
  | 0 => FP.dconst0
  | k + 1 => if r k ≤ 0 then fs_n a r k else FP.dadd (fs_n a r k) (FP.ddiv (FP.i2d (a k)) (FP.i2d (r k)))
theorem pos_of {v : Int32} (h : ¬ v ≤ 0) : 0 < v.toInt := by
  rw [Int32.le_iff_toInt_le] at h
  have z0 : (0 : Int32).toInt = 0 := rfl
  omega
theorem dk_sh {a r : Int32} (ha : 0 ≤ a.toInt) (hr : ¬ r ≤ 0) : dk (FP.ddiv (FP.i2d a) (FP.i2d r)) := by
  obtain ⟨d, q, e, h0⟩ := i2d_pos (pos_of hr)
  exact dk_div (dk_i2d ha) e h0
theorem fs_dk {a r : Nat → Int32} (ha : ∀ i, i < 3 → 0 ≤ (a i).toInt) : ∀ k, k ≤ 3 → dk (fs_n a r k)
  | 0, _ => by
    show (0 : UInt64).toNat ≤ _
    exact Nat.le_of_ble_eq_true rfl
  | k + 1, h => by
    have ih := fs_dk (r := r) ha k (by omega)
    unfold fs_n
    split
    · exact ih
    · rename_i hr
      exact dk_add ih (dk_sh (ha k (by omega)) hr)
theorem tc_pos {r : Nat → Int32} (h : ¬ tk_cnt r 3 = 0) : 0 < (tk_cnt r 3).toInt := by
  have key : ∀ a b c : Int32, isBo a → isBo b → isBo c → ¬ ((0 + a) + b) + c = 0 → 0 < (((0 + a) + b) + c).toInt := by
    intro a b c ha hb hc
    rcases ha with rfl | rfl <;> rcases hb with rfl | rfl <;> rcases hc with rfl | rfl <;> decide
  have bo : ∀ x : Int32, isBo (if x ≤ 0 then (0 : Int32) else 1) := fun x => by
    split
    · exact isBo_0
    · exact isBo_1
  exact key _ _ _ (bo (r 0)) (bo (r 1)) (bo (r 2)) h
theorem dk_mean {a r : Nat → Int32} (ha : ∀ i, i < 3 → 0 ≤ (a i).toInt) (h : ¬ tk_cnt r 3 = 0) : dk (FP.ddiv (fs_n a r 3) (FP.i2d (tk_cnt r 3))) := by
  obtain ⟨d, q, e, h0⟩ := i2d_pos (tc_pos h)
  exact dk_div (fs_dk ha 3 (Nat.le_refl _)) e h0
/-- how many hold -/
def ct_n (P : Nat → Int32) : Nat → Int32
  | 0 => 0
  | k + 1 => ct_n P k + (if P k = 0 then 0 else 1)
theorem ct_nI (P : Nat → Int32) : ∀ k, ∃ n, n ≤ k ∧ ct_n P k = nI n
  | 0 => ⟨0, Nat.le_refl _, rfl⟩
  | k + 1 => by
    obtain ⟨n, h1, h2⟩ := ct_nI P k
    show ∃ m, m ≤ k + 1 ∧ ct_n P k + (if P k = 0 then 0 else 1) = nI m
    rw [h2]
    split
    · exact ⟨n, by omega, Int32.add_zero _⟩
    · exact ⟨n + 1, by omega, nI_1 n⟩
theorem ct_eq {P Q : Nat → Int32} : ∀ k, (∀ j, j < k → P j = Q j) → ct_n P k = ct_n Q k
  | 0, _ => rfl
  | k + 1, h => by
    show ct_n P k + (if P k = 0 then 0 else 1) = ct_n Q k + (if Q k = 0 then 0 else 1)
    rw [ct_eq k (fun j hj => h j (by omega)), h k (by omega)]
theorem ct_q {P : Nat → Int32} {z : Nat} (hz : z ≤ 12) (h0 : ¬ nI z = 0) : vf_n32 (fq (ct_n P z) (nI z)) ∧ vf_n64 (FP.f2d (fq (ct_n P z) (nI z))) ∧ FP.dcmp (FP.f2d (fq (ct_n P z) (nI z))) (FP.f2d (fq (ct_n P z) (nI z))) = some .eq := by
  obtain ⟨n, h1, h2⟩ := ct_nI P z
  rw [h2]
  exact fq_n h1 hz (fun q => h0 (by rw [q]; rfl))
def xk_no (n : Int32) : Int32 := if n = 0 then 1 else 0
section
variable {G : MC} {cc : ByteArray} {own : String} {Wp : Heap → Prop} {L : List (Nat × Value)} {k n pc : Nat} {stk : List Value}
theorem g_fconst (C : Cx G cc own) (d : decode cc pc = .ok (.fconst 0, 1)) (kk : GH G Wp L k n (pc + 1) (.float FP.fconst0 :: stk)) : GH G Wp L k n pc stk := fun H locs ls hl hw hS => lv_fconst0 C.x C.b d (kk H locs ls hl hw hS)
end

set_option maxHeartbeats 400000 in
set_option maxRecDepth 100000 in
/-- sumOfShares.sumOfShares -/
theorem c_X9_sumOfShares (l : Launch) (D : va_G) (cy : Nat → ClassId) (A : Nat → Prop) (ad sad : Nat → Nat) (X M : XF) (K : KF) (h5 : ∀ i : Nat, i < 3 → 0 ≤ (X 5 i).toInt) : Met l yX9_sumOfShares (wsA yX9_sumOfShares cX9_sumOfShares 4 (some .double)) ({ frames := 0, cells := 0, slots := 0, locals := 0 }) (PcW D cy A ad sad X M K [.ref (ad 1)]) (QdW D cy A ad (fun r X1 M1 K1 => r = fs_n (X 5) (X 2) 3 ∧ X1 = X ∧ M1 = M ∧ K1 = K)) 0 0 A := by
  refine met_ofW [(0, .ref (ad 1))] (by decide +kernel) (Nat.le_of_ble_eq_true rfl) rfl ?_
  intro G C hl hR hL hD hcy hA had hsa hr hQ
  subst hD hcy hA had hsa hl
  refine g_dconst C dX9_sumOfShares_0 ?_
  refine g_named (fun v_1 ev_1 => ?_)
  refine g_dstore_n C dX9_sumOfShares_1 (L' := [(1, .double v_1), (0, .ref (gad G 1))]) rfl (by rw [hL]; decide) ?_
  refine g_iconst C dX9_sumOfShares_2 (v := 0) (by decide) ?_
  refine g_istore_n C dX9_sumOfShares_3 (L' := [(3, .int 0), (1, .double v_1), (0, .ref (gad G 1))]) rfl (by rw [hL]; decide) ?_
  have lp4 : ∀ (n i : Nat) (a : UInt64) (hi : i + n = 3) (ha : a = fs_n (X 5) (X 2) i), GH G (WX G X M K) [(0, .ref (gad G 1)), (1, .double a), (3, .int (nI i))] 0 0 4 [] := by
    intro n
    induction n with
    | zero =>
      intro i a hi ha
      obtain rfl : i = 3 := by omega
      refine g_iload_n C dX9_sumOfShares_4 2 rfl ?_
      refine g_iconst C dX9_sumOfShares_5 (v := 3) (by decide) ?_
      refine g_icmp_ge C dX9_sumOfShares_6 (tgt := 42) (by decide) (fun c_6 => ?_) (fun c_6 => absurd (nI_le (a := 3) (b := 3) (Nat.le_refl _) (by omega)) c_6)
      refine g_dload_n C dX9_sumOfShares_42 1 rfl ?_
      refine g_dretW C hr hQ (Nat.le_refl _) (Nat.le_refl _) dX9_sumOfShares_43 ?_
      exact ⟨ha, rfl, rfl, rfl⟩
    | succ n ih =>
      intro i a hi ha
      refine g_iload_n C dX9_sumOfShares_4 2 rfl ?_
      refine g_iconst C dX9_sumOfShares_5 (v := 3) (by decide) ?_
      refine g_icmp_ge C dX9_sumOfShares_6 (tgt := 42) (by decide) (fun c_6 => absurd c_6 (nI_ge (a := i) (b := 3) (by omega) (by omega))) (fun c_6 => ?_)
      refine g_aload_n C dX9_sumOfShares_9 0 rfl ?_
      refine gf_X9_room C tw50 dX9_sumOfShares_10 ?_
      refine g_iload_n C dX9_sumOfShares_13 2 rfl ?_
      refine al_2 C (by omega) dX9_sumOfShares_14 ?_
      refine g_if_le C dX9_sumOfShares_15 (tgt := 36) (by decide) (fun c_15 => ?_) (fun c_15 => ?_)
      · try simp only [sa_ap, si_ap, reduceIte, Nat.reduceEqDiff, up_us, lg_cmp_lt, lg_cmp_gt, lg_cmp_le, lg_cmp_ge] at c_15
        refine g_iinc C dX9_sumOfShares_36 2 rfl (v := nI (i + 1)) (nI_1 _) (L' := [(3, .int (nI (i + 1))), (0, .ref (gad G 1)), (1, .double a)]) rfl (by rw [hL]; decide) ?_
        refine g_goto C dX9_sumOfShares_39 (tgt := 4) (by decide) ?_
        exact g_sub [1, 2, 0] rfl (ih (i + 1) _ (by omega) (by first | with_reducible rfl | (subst ev_1 ha; first | with_reducible rfl | (simp only [sa_ap, si_ap, si_sa, sa_sa, sa_3, sa_4, sa_5, sa_6, sa_7, sa_8, fs_n, up_us, up_up, c_15]; done) | (simp [sa_ap, si_ap, si_sa, sa_sa, sa_3, sa_4, sa_5, sa_6, sa_7, sa_8, fs_n, up_us, up_up, c_15]; done))))
      · try simp only [sa_ap, si_ap, reduceIte, Nat.reduceEqDiff, up_us, lg_cmp_lt, lg_cmp_gt, lg_cmp_le, lg_cmp_ge] at c_15
        refine g_dload_n C dX9_sumOfShares_18 1 rfl ?_
        refine g_aload_n C dX9_sumOfShares_19 0 rfl ?_
        refine gf_X9_amount C tw53 dX9_sumOfShares_20 ?_
        refine g_iload_n C dX9_sumOfShares_23 2 rfl ?_
        refine al_5 C (by omega) dX9_sumOfShares_24 ?_
        refine g_i2d C dX9_sumOfShares_25 ?_
        refine g_aload_n C dX9_sumOfShares_26 0 rfl ?_
        refine gf_X9_room C tw50 dX9_sumOfShares_27 ?_
        refine g_iload_n C dX9_sumOfShares_30 2 rfl ?_
        refine al_2 C (by omega) dX9_sumOfShares_31 ?_
        refine g_i2d C dX9_sumOfShares_32 ?_
        refine g_ddiv C dX9_sumOfShares_33 (dk_n (dk_sh (h5 i (by omega)) c_15)) ?_
        refine g_dadd C dX9_sumOfShares_34 (dk_n (dk_add (by rw [ha]; exact fs_dk h5 i (by omega)) (dk_sh (h5 i (by omega)) c_15))) ?_
        refine g_named (fun v_2 ev_2 => ?_)
        refine g_dstore_n C dX9_sumOfShares_35 (L' := [(1, .double v_2), (0, .ref (gad G 1)), (3, .int (nI i))]) rfl (by rw [hL]; decide) ?_
        refine g_iinc C dX9_sumOfShares_36 2 rfl (v := nI (i + 1)) (nI_1 _) (L' := [(3, .int (nI (i + 1))), (1, .double v_2), (0, .ref (gad G 1))]) rfl (by rw [hL]; decide) ?_
        refine g_goto C dX9_sumOfShares_39 (tgt := 4) (by decide) ?_
        exact g_sub [2, 1, 0] rfl (ih (i + 1) _ (by omega) (by first | with_reducible rfl | (subst ev_1 ha ev_2; first | with_reducible rfl | (simp only [sa_ap, si_ap, si_sa, sa_sa, sa_3, sa_4, sa_5, sa_6, sa_7, sa_8, fs_n, up_us, up_up, c_15]; done) | (simp [sa_ap, si_ap, si_sa, sa_sa, sa_3, sa_4, sa_5, sa_6, sa_7, sa_8, fs_n, up_us, up_up, c_15]; done))))
  exact g_sub [2, 1, 0] rfl (lp4 (3) 0 _ (by omega) (by first | with_reducible rfl | (subst ev_1; first | with_reducible rfl | (simp only [sa_ap, si_ap, si_sa, sa_sa, sa_3, sa_4, sa_5, sa_6, sa_7, sa_8, fs_n, up_us, up_up]; done) | (simp [sa_ap, si_ap, si_sa, sa_sa, sa_3, sa_4, sa_5, sa_6, sa_7, sa_8, fs_n, up_us, up_up]; done))))

set_option maxHeartbeats 400000 in
set_option maxRecDepth 100000 in
/-- metShare.metShare -/
theorem c_X10_metShare (l : Launch) (D : va_G) (cy : Nat → ClassId) (A : Nat → Prop) (ad sad : Nat → Nat) (X M : XF) (K : KF) (z : Nat) (hz : X 105 0 = nI z) (hzl : z ≤ 12) (ho : ∀ j : Nat, j < z → okAb (X 25 j) (X 26 j)) (hst : l.stackTraces = false) : vx_Met l yX10_metShare (wsA yX10_metShare cX10_metShare 3 (some .float)) ({ frames := 6, cells := 1, slots := 6, locals := 93 }) (PcW D cy A ad sad X M K [.ref (ad 0)]) (QfW D cy A ad (fun r X1 M1 K1 => xk_no (nI z) = 0 ∧ r = fq (ct_n (fun j => cl_met X j) z) (nI z) ∧ X1 = X ∧ M1 = M ∧ K1 = K)) (XcW D cy A ad (fun E X1 M1 K1 => ¬ xk_no (nI z) = 0 ∧ E = xn "java/lang/ArithmeticException" "java/lang/ArithmeticException" "java/lang/ArithmeticException" (xk_no (nI z)) ∧ X1 = X ∧ M1 = M ∧ K1 = K)) 1 6 A := by
  refine vet_ofW [(0, .ref (ad 0))] (by decide +kernel) (Nat.le_of_ble_eq_true rfl) rfl ?_
  intro G C hl hR hL hD hcy hA had hsa hr ht hQ
  subst hD hcy hA had hsa hl
  refine g_aload_n C dX10_metShare_0 0 rfl ?_
  refine gf_X10_rules C tw324 dX10_metShare_1 ?_
  refine gf_X6_size C tw181 dX10_metShare_4 ?_
  refine g_topi hz ?_
  refine g_if_ne C dX10_metShare_7 (tgt := 21) (by decide) (fun c_7 => ?_) (fun c_7 => ?_)
  · try simp only [sa_ap, si_ap, reduceIte, Nat.reduceEqDiff, up_us, lg_cmp_lt, lg_cmp_gt, lg_cmp_le, lg_cmp_ge] at c_7
    refine g_iconst C dX10_metShare_21 (v := 0) (by decide) ?_
    refine g_istore_n C dX10_metShare_22 (L' := [(1, .int 0), (0, .ref (gad G 0))]) rfl (by rw [hL]; decide) ?_
    refine g_iconst C dX10_metShare_23 (v := 0) (by decide) ?_
    refine g_istore_n C dX10_metShare_24 (L' := [(2, .int 0), (1, .int 0), (0, .ref (gad G 0))]) rfl (by rw [hL]; decide) ?_
    have lp25 : ∀ (n i : Nat) (a : Int32) (hi : i + n = z) (ha : a = ct_n (fun j => cl_met X j) i), GH G (WX G X M K) [(0, .ref (gad G 0)), (1, .int a), (2, .int (nI i))] 0 0 25 [] := by
      intro n
      induction n with
      | zero =>
        intro i a hi ha
        obtain rfl : z = i := by omega
        refine g_iload_n C dX10_metShare_25 2 rfl ?_
        refine g_aload_n C dX10_metShare_26 0 rfl ?_
        refine gf_X10_rules C tw324 dX10_metShare_27 ?_
        refine gf_X6_size C tw181 dX10_metShare_30 ?_
        refine g_topi hz ?_
        refine g_icmp_ge C dX10_metShare_33 (tgt := 58) (by decide) (fun c_33 => ?_) (fun c_33 => absurd (nI_le (a := z) (b := z) (Nat.le_refl _) (by omega)) c_33)
        refine g_iload_n C dX10_metShare_58 1 rfl ?_
        refine g_i2f C dX10_metShare_59 ?_
        refine g_aload_n C dX10_metShare_60 0 rfl ?_
        refine gf_X10_rules C tw324 dX10_metShare_61 ?_
        refine gf_X6_size C tw181 dX10_metShare_64 ?_
        refine g_topi hz ?_
        refine g_i2f C dX10_metShare_67 ?_
        refine g_fdiv C dX10_metShare_68 (by rw [ha]; exact (ct_q hzl c_7).1) ?_
        refine g_fretWX C hr hQ (by decide) (by decide) dX10_metShare_69 ?_
        exact ⟨(by first | with_reducible rfl | (subst ha; first | with_reducible rfl | (simp only [sa_ap, si_ap, si_sa, sa_sa, sa_3, sa_4, sa_5, sa_6, sa_7, sa_8, xk_no, xn, ct_n, fq, up_us, up_up, c_7]; done) | (simp [sa_ap, si_ap, si_sa, sa_sa, sa_3, sa_4, sa_5, sa_6, sa_7, sa_8, xk_no, xn, ct_n, fq, up_us, up_up, c_7]; done))), (by first | with_reducible rfl | (subst ha; first | with_reducible rfl | (simp only [sa_ap, si_ap, si_sa, sa_sa, sa_3, sa_4, sa_5, sa_6, sa_7, sa_8, xk_no, xn, ct_n, fq, up_us, up_up, c_7]; done) | (simp [sa_ap, si_ap, si_sa, sa_sa, sa_3, sa_4, sa_5, sa_6, sa_7, sa_8, xk_no, xn, ct_n, fq, up_us, up_up, c_7]; done))), (by first | with_reducible rfl | (subst ha; first | with_reducible rfl | (simp only [sa_ap, si_ap, si_sa, sa_sa, sa_3, sa_4, sa_5, sa_6, sa_7, sa_8, xk_no, xn, ct_n, fq, up_us, up_up, c_7]; done) | (simp [sa_ap, si_ap, si_sa, sa_sa, sa_3, sa_4, sa_5, sa_6, sa_7, sa_8, xk_no, xn, ct_n, fq, up_us, up_up, c_7]; done))), rfl, rfl⟩
      | succ n ih =>
        intro i a hi ha
        refine g_iload_n C dX10_metShare_25 2 rfl ?_
        refine g_aload_n C dX10_metShare_26 0 rfl ?_
        refine gf_X10_rules C tw324 dX10_metShare_27 ?_
        refine gf_X6_size C tw181 dX10_metShare_30 ?_
        refine g_topi hz ?_
        refine g_icmp_ge C dX10_metShare_33 (tgt := 58) (by decide) (fun c_33 => absurd c_33 (nI_ge (a := i) (b := z) (by omega) (by omega))) (fun c_33 => ?_)
        refine g_iload_n C dX10_metShare_36 1 rfl ?_
        refine g_aload_n C dX10_metShare_37 0 rfl ?_
        refine g_iload_n C dX10_metShare_38 2 rfl ?_
        refine g_callViW C dX10_metShare_39 (c_X10_isMetOrWaived _ _ _ _ _ _ _ _ _ i (by omega) (ho i (by omega))) tw978 tw980 tp6 tw1 tw981 (rv_X10 C) rfl ⟨by decide +kernel, by decide +kernel, rfl⟩ ⟨rfl, rfl⟩ (by rw [hR]; decide) (Nat.le_of_ble_eq_true rfl) (by rw [hR]; decide) (fun r_1 X1 M1 K1 h_2 => ?_)
        obtain ⟨er_1, hX1, hM1, hK1⟩ := h_2
        subst X1 M1 K1
        try simp only [sa_ap, si_ap, reduceIte, Nat.reduceEqDiff] at er_1
        have c_m := er_1
        refine g_if_eq C dX10_metShare_42 (tgt := 49) (by decide) (fun c_42 => ?_) (fun c_42 => ?_)
        · try simp only [sa_ap, si_ap, reduceIte, Nat.reduceEqDiff, up_us, lg_cmp_lt, lg_cmp_gt, lg_cmp_le, lg_cmp_ge] at c_42
          rw [c_m] at c_42
          refine g_iconst C dX10_metShare_49 (v := 0) (by decide) ?_
          refine g_iadd C dX10_metShare_50 ?_
          refine g_namei (fun v_3 ev_3 => ?_)
          refine g_istore_n C dX10_metShare_51 (L' := [(1, .int v_3), (0, .ref (gad G 0)), (2, .int (nI i))]) rfl (by rw [hL]; decide) ?_
          refine g_iinc C dX10_metShare_52 2 rfl (v := nI (i + 1)) (nI_1 _) (L' := [(2, .int (nI (i + 1))), (1, .int v_3), (0, .ref (gad G 0))]) rfl (by rw [hL]; decide) ?_
          refine g_goto C dX10_metShare_55 (tgt := 25) (by decide) ?_
          exact g_sub [2, 1, 0] rfl (ih (i + 1) _ (by omega) (by first | with_reducible rfl | (subst ha er_1 ev_3; first | with_reducible rfl | (simp only [sa_ap, si_ap, si_sa, sa_sa, sa_3, sa_4, sa_5, sa_6, sa_7, sa_8, xk_no, xn, ct_n, fq, up_us, up_up, c_7, c_42]; done) | (simp [sa_ap, si_ap, si_sa, sa_sa, sa_3, sa_4, sa_5, sa_6, sa_7, sa_8, xk_no, xn, ct_n, fq, up_us, up_up, c_7, c_42]; done))))
        · try simp only [sa_ap, si_ap, reduceIte, Nat.reduceEqDiff, up_us, lg_cmp_lt, lg_cmp_gt, lg_cmp_le, lg_cmp_ge] at c_42
          rw [c_m] at c_42
          refine g_iconst C dX10_metShare_45 (v := 1) (by decide) ?_
          refine g_goto C dX10_metShare_46 (tgt := 50) (by decide) ?_
          refine g_iadd C dX10_metShare_50 ?_
          refine g_namei (fun v_4 ev_4 => ?_)
          refine g_istore_n C dX10_metShare_51 (L' := [(1, .int v_4), (0, .ref (gad G 0)), (2, .int (nI i))]) rfl (by rw [hL]; decide) ?_
          refine g_iinc C dX10_metShare_52 2 rfl (v := nI (i + 1)) (nI_1 _) (L' := [(2, .int (nI (i + 1))), (1, .int v_4), (0, .ref (gad G 0))]) rfl (by rw [hL]; decide) ?_
          refine g_goto C dX10_metShare_55 (tgt := 25) (by decide) ?_
          exact g_sub [2, 1, 0] rfl (ih (i + 1) _ (by omega) (by first | with_reducible rfl | (subst ha er_1 ev_4; first | with_reducible rfl | (simp only [sa_ap, si_ap, si_sa, sa_sa, sa_3, sa_4, sa_5, sa_6, sa_7, sa_8, xk_no, xn, ct_n, fq, up_us, up_up, c_7, c_42]; done) | (simp [sa_ap, si_ap, si_sa, sa_sa, sa_3, sa_4, sa_5, sa_6, sa_7, sa_8, xk_no, xn, ct_n, fq, up_us, up_up, c_7, c_42]; done))))
    exact g_sub [2, 1, 0] rfl (lp25 (z) 0 _ (by omega) (by first | with_reducible rfl | (first | with_reducible rfl | (simp only [sa_ap, si_ap, si_sa, sa_sa, sa_3, sa_4, sa_5, sa_6, sa_7, sa_8, xk_no, xn, ct_n, fq, up_us, up_up, c_7]; done) | (simp [sa_ap, si_ap, si_sa, sa_sa, sa_3, sa_4, sa_5, sa_6, sa_7, sa_8, xk_no, xn, ct_n, fq, up_us, up_up, c_7]; done))))
  · try simp only [sa_ap, si_ap, reduceIte, Nat.reduceEqDiff, up_us, lg_cmp_lt, lg_cmp_gt, lg_cmp_le, lg_cmp_ge] at c_7
    refine g_throwW C hst ht hQ th_357 th_ot_357 tw1216 tw35 (i := 29) ⟨by decide, rfl⟩ dX10_metShare_10 dX10_metShare_13 dX10_metShare_14 dX10_metShare_17 dX10_metShare_20 (by rw [hR]; decide) (by rw [hR]; decide) (by decide) ?_
    exact ⟨(by first | with_reducible rfl | (first | with_reducible rfl | (simp only [sa_ap, si_ap, si_sa, sa_sa, sa_3, sa_4, sa_5, sa_6, sa_7, sa_8, xk_no, xn, ct_n, fq, up_us, up_up, c_7]; done) | (simp [sa_ap, si_ap, si_sa, sa_sa, sa_3, sa_4, sa_5, sa_6, sa_7, sa_8, xk_no, xn, ct_n, fq, up_us, up_up, c_7]; done))), (by first | with_reducible rfl | (first | with_reducible rfl | (simp only [sa_ap, si_ap, si_sa, sa_sa, sa_3, sa_4, sa_5, sa_6, sa_7, sa_8, xk_no, xn, ct_n, fq, up_us, up_up, c_7]; done) | (simp [sa_ap, si_ap, si_sa, sa_sa, sa_3, sa_4, sa_5, sa_6, sa_7, sa_8, xk_no, xn, ct_n, fq, up_us, up_up, c_7]; done))), (by first | with_reducible rfl | (first | with_reducible rfl | (simp only [sa_ap, si_ap, si_sa, sa_sa, sa_3, sa_4, sa_5, sa_6, sa_7, sa_8, xk_no, xn, ct_n, fq, up_us, up_up, c_7]; done) | (simp [sa_ap, si_ap, si_sa, sa_sa, sa_3, sa_4, sa_5, sa_6, sa_7, sa_8, xk_no, xn, ct_n, fq, up_us, up_up, c_7]; done))), rfl, rfl⟩

set_option maxHeartbeats 400000 in
set_option maxRecDepth 100000 in
/-- meanFill.meanFill -/
theorem c_X10_meanFill (l : Launch) (D : va_G) (cy : Nat → ClassId) (A : Nat → Prop) (ad sad : Nat → Nat) (X M : XF) (K : KF) (h5 : ∀ i : Nat, i < 3 → 0 ≤ (X 5 i).toInt) (hst : l.stackTraces = false) : vx_Met l yX10_meanFill (wsA yX10_meanFill cX10_meanFill 2 (some .double)) ({ frames := 6, cells := 1, slots := 6, locals := 82 }) (PcW D cy A ad sad X M K [.ref (ad 0)]) (QdW D cy A ad (fun r X1 M1 K1 => xk_no (tk_cnt (X 2) 3) = 0 ∧ r = FP.ddiv (fs_n (X 5) (X 2) 3) (FP.i2d (tk_cnt (X 2) 3)) ∧ X1 = X ∧ M1 = M ∧ K1 = K)) (XcW D cy A ad (fun E X1 M1 K1 => ¬ xk_no (tk_cnt (X 2) 3) = 0 ∧ E = xn "java/lang/ArithmeticException" "java/lang/ArithmeticException" "java/lang/ArithmeticException" (xk_no (tk_cnt (X 2) 3)) ∧ X1 = X ∧ M1 = M ∧ K1 = K)) 1 6 A := by
  refine vet_ofW [(0, .ref (ad 0))] (by decide +kernel) (Nat.le_of_ble_eq_true rfl) rfl ?_
  intro G C hl hR hL hD hcy hA had hsa hr ht hQ
  subst hD hcy hA had hsa hl
  refine g_aload_n C dX10_meanFill_0 0 rfl ?_
  refine gf_X10_tanks C tw318 dX10_meanFill_1 ?_
  refine g_callViW C dX10_meanFill_4 (c_X9_countWithRoom _ _ _ _ _ _ _ _ _ ) tw1226 tw1227 tw1228 tw2 tw1229 (rv_X9 C) rfl ⟨by decide +kernel, by decide +kernel, rfl⟩ ⟨rfl, rfl⟩ (by rw [hR]; decide) (Nat.le_of_ble_eq_true rfl) (by rw [hR]; decide) (fun r_1 X1 M1 K1 h_2 => ?_)
  obtain ⟨er_1, hX1, hM1, hK1⟩ := h_2
  subst X1 M1 K1
  try simp only [sa_ap, si_ap, reduceIte, Nat.reduceEqDiff] at er_1
  refine g_istore_n C dX10_meanFill_7 (L' := [(1, .int r_1), (0, .ref (gad G 0))]) rfl (by rw [hL]; decide) ?_
  refine g_iload_n C dX10_meanFill_8 0 rfl ?_
  refine g_if_ne C dX10_meanFill_9 (tgt := 23) (by decide) (fun c_9 => ?_) (fun c_9 => ?_)
  · try simp only [sa_ap, si_ap, reduceIte, Nat.reduceEqDiff, up_us, lg_cmp_lt, lg_cmp_gt, lg_cmp_le, lg_cmp_ge] at c_9
    refine g_aload_n C dX10_meanFill_23 1 rfl ?_
    refine gf_X10_tanks C tw318 dX10_meanFill_24 ?_
    refine g_callVdW C dX10_meanFill_27 (c_X9_sumOfShares _ _ _ _ _ _ _ _ _ h5) tw1231 tw1232 tw1233 tw2 tw1234 (rv_X9 C) rfl ⟨by decide +kernel, by decide +kernel, rfl⟩ ⟨rfl, rfl⟩ (by rw [hR]; decide) (Nat.le_of_ble_eq_true rfl) (by rw [hR]; decide) (fun r_3 X1 M1 K1 h_4 => ?_)
    obtain ⟨er_3, hX1, hM1, hK1⟩ := h_4
    subst X1 M1 K1
    try simp only [sa_ap, si_ap, reduceIte, Nat.reduceEqDiff] at er_3
    refine g_iload_n C dX10_meanFill_30 0 rfl ?_
    refine g_i2d C dX10_meanFill_31 ?_
    refine g_ddiv C dX10_meanFill_32 (by rw [er_3, er_1]; exact dk_n (dk_mean h5 (by rw [← er_1]; exact c_9))) ?_
    refine g_dretWX C hr hQ (by decide) (by decide) dX10_meanFill_33 ?_
    exact ⟨(by first | with_reducible rfl | (subst er_1 er_3; first | with_reducible rfl | (simp only [sa_ap, si_ap, si_sa, sa_sa, sa_3, sa_4, sa_5, sa_6, sa_7, sa_8, xk_no, xn, up_us, up_up, c_9]; done) | (simp [sa_ap, si_ap, si_sa, sa_sa, sa_3, sa_4, sa_5, sa_6, sa_7, sa_8, xk_no, xn, up_us, up_up, c_9]; done))), (by first | with_reducible rfl | (subst er_1 er_3; first | with_reducible rfl | (simp only [sa_ap, si_ap, si_sa, sa_sa, sa_3, sa_4, sa_5, sa_6, sa_7, sa_8, xk_no, xn, up_us, up_up, c_9]; done) | (simp [sa_ap, si_ap, si_sa, sa_sa, sa_3, sa_4, sa_5, sa_6, sa_7, sa_8, xk_no, xn, up_us, up_up, c_9]; done))), (by first | with_reducible rfl | (subst er_1 er_3; first | with_reducible rfl | (simp only [sa_ap, si_ap, si_sa, sa_sa, sa_3, sa_4, sa_5, sa_6, sa_7, sa_8, xk_no, xn, up_us, up_up, c_9]; done) | (simp [sa_ap, si_ap, si_sa, sa_sa, sa_3, sa_4, sa_5, sa_6, sa_7, sa_8, xk_no, xn, up_us, up_up, c_9]; done))), rfl, rfl⟩
  · try simp only [sa_ap, si_ap, reduceIte, Nat.reduceEqDiff, up_us, lg_cmp_lt, lg_cmp_gt, lg_cmp_le, lg_cmp_ge] at c_9
    refine g_throwW C hst ht hQ th_357 th_ot_357 tw1216 tw35 (i := 30) ⟨by decide, rfl⟩ dX10_meanFill_12 dX10_meanFill_15 dX10_meanFill_16 dX10_meanFill_19 dX10_meanFill_22 (by rw [hR]; decide) (by rw [hR]; decide) (by decide) ?_
    exact ⟨(by first | with_reducible rfl | (subst er_1; first | with_reducible rfl | (simp only [sa_ap, si_ap, si_sa, sa_sa, sa_3, sa_4, sa_5, sa_6, sa_7, sa_8, xk_no, xn, up_us, up_up, c_9]; done) | (simp [sa_ap, si_ap, si_sa, sa_sa, sa_3, sa_4, sa_5, sa_6, sa_7, sa_8, xk_no, xn, up_us, up_up, c_9]; done))), (by first | with_reducible rfl | (subst er_1; first | with_reducible rfl | (simp only [sa_ap, si_ap, si_sa, sa_sa, sa_3, sa_4, sa_5, sa_6, sa_7, sa_8, xk_no, xn, up_us, up_up, c_9]; done) | (simp [sa_ap, si_ap, si_sa, sa_sa, sa_3, sa_4, sa_5, sa_6, sa_7, sa_8, xk_no, xn, up_us, up_up, c_9]; done))), (by first | with_reducible rfl | (subst er_1; first | with_reducible rfl | (simp only [sa_ap, si_ap, si_sa, sa_sa, sa_3, sa_4, sa_5, sa_6, sa_7, sa_8, xk_no, xn, up_us, up_up, c_9]; done) | (simp [sa_ap, si_ap, si_sa, sa_sa, sa_3, sa_4, sa_5, sa_6, sa_7, sa_8, xk_no, xn, up_us, up_up, c_9]; done))), rfl, rfl⟩

set_option maxHeartbeats 400000 in
set_option maxRecDepth 100000 in
/-- metShare.metShare -/
theorem c_X11_metShare (l : Launch) (D : va_G) (cy : Nat → ClassId) (A : Nat → Prop) (ad sad : Nat → Nat) (X M : XF) (K : KF) (z : Nat) (hz : M 117 0 = nI z) (hzl : z ≤ 12) (ho : ∀ j : Nat, j < z → okAb (M 63 j) (M 64 j)) (zs : Nat) (hzs : M 116 0 = nI zs) (hzk : zs ≤ K.2.1 2) (hk2 : K.2.1 2 < 2 ^ 31) (h0 : ∀ k : Nat, k < 3 → ¬ sn_cnt (M 57) k 3 = 0) : Met l yX11_metShare (wsA yX11_metShare cX11_metShare 3 (some .float)) ({ frames := 5, cells := 0, slots := 0, locals := 112 }) (PcW D cy A ad sad X M K [.ref (ad 42)]) (QfW D cy A ad (fun r X1 M1 K1 => r = (if nI z = 0 then FP.fconst0 else fq (ct_n (fun j => md_met M K zs j) z) (nI z)) ∧ X1 = X ∧ M1 = si M 100 (if nI z = 0 then 1 else 0) ∧ K1 = K)) 0 0 A := by
  refine met_ofW [(0, .ref (ad 42))] (by decide +kernel) (Nat.le_of_ble_eq_true rfl) rfl ?_
  intro G C hl hR hL hD hcy hA had hsa hr hQ
  subst hD hcy hA had hsa hl
  refine g_aload_n C dX11_metShare_0 0 rfl ?_
  refine g_iconst C dX11_metShare_1 (v := 0) (by decide) ?_
  refine pf_X11_thrown C tw1243 dX11_metShare_2 ?_
  refine g_iconst C dX11_metShare_5 (v := 0) (by decide) ?_
  refine g_istore_n C dX11_metShare_6 (L' := [(1, .int 0), (0, .ref (gad G 42))]) rfl (by rw [hL]; decide) ?_
  refine g_iconst C dX11_metShare_7 (v := 0) (by decide) ?_
  refine g_istore_n C dX11_metShare_8 (L' := [(2, .int 0), (1, .int 0), (0, .ref (gad G 42))]) rfl (by rw [hL]; decide) ?_
  have lp9 : ∀ (n i : Nat) (a : Int32) (hi : i + n = z) (ha : a = ct_n (fun j => md_met M K zs j) i), GH G (WX G X (si M 100 0) K) [(0, .ref (gad G 42)), (1, .int a), (2, .int (nI i))] 0 0 9 [] := by
    intro n
    induction n with
    | zero =>
      intro i a hi ha
      obtain rfl : z = i := by omega
      refine g_iload_n C dX11_metShare_9 2 rfl ?_
      refine g_aload_n C dX11_metShare_10 0 rfl ?_
      refine gf_X11_rules C tw1282 dX11_metShare_11 ?_
      refine g_topi hz ?_
      refine g_icmp_ge C dX11_metShare_14 (tgt := 39) (by decide) (fun c_14 => ?_) (fun c_14 => absurd (nI_le (a := z) (b := z) (Nat.le_refl _) (by omega)) c_14)
      refine g_aload_n C dX11_metShare_39 0 rfl ?_
      refine g_aload_n C dX11_metShare_40 0 rfl ?_
      refine gf_X11_rules C tw1282 dX11_metShare_41 ?_
      refine g_topi hz ?_
      refine g_if_ne C dX11_metShare_44 (tgt := 51) (by decide) (fun c_44 => ?_) (fun c_44 => ?_)
      · try simp only [sa_ap, si_ap, reduceIte, Nat.reduceEqDiff, up_us, lg_cmp_lt, lg_cmp_gt, lg_cmp_le, lg_cmp_ge] at c_44
        refine g_iconst C dX11_metShare_51 (v := 0) (by decide) ?_
        refine g_iconst C dX11_metShare_52 (v := 1) (by decide) ?_
        refine g_callViW C dX11_metShare_53 (c_X11_fails_0 _ _ _ _ _ _ _ _ _ _ (by rfl)) tw1412 tw1414 tp14 tw16 tw1415 (rv_X11 C) rfl ⟨by decide +kernel, by decide +kernel, rfl⟩ ⟨rfl, rfl⟩ (by rw [hR]; decide) (Nat.le_of_ble_eq_true rfl) (by rw [hR]; decide) (fun r_1 X1 M1 K1 h_2 => ?_)
        obtain ⟨rfl, hX1, hM1, hK1⟩ := h_2
        subst X1 M1 K1
        refine g_if_eq C dX11_metShare_56 (tgt := 63) (by decide) (fun c_56 => ?_) (fun c_56 => absurd (by decide) c_56)
        refine g_iload_n C dX11_metShare_63 1 rfl ?_
        refine g_i2f C dX11_metShare_64 ?_
        refine g_aload_n C dX11_metShare_65 0 rfl ?_
        refine gf_X11_rules C tw1282 dX11_metShare_66 ?_
        refine g_topi hz ?_
        refine g_i2f C dX11_metShare_69 ?_
        refine g_fdiv C dX11_metShare_70 (by rw [ha]; exact (ct_q hzl c_44).1) ?_
        refine g_fretW C hr hQ (Nat.le_refl _) (Nat.le_refl _) dX11_metShare_71 ?_
        exact ⟨(by first | with_reducible rfl | (subst ha; first | with_reducible rfl | (simp only [sa_ap, si_ap, si_sa, sa_sa, sa_3, sa_4, sa_5, sa_6, sa_7, sa_8, ct_n, fq, up_us, up_up, c_44]; done) | (simp [sa_ap, si_ap, si_sa, sa_sa, sa_3, sa_4, sa_5, sa_6, sa_7, sa_8, ct_n, fq, up_us, up_up, c_44]; done))), rfl, (by first | with_reducible rfl | (subst ha; first | with_reducible rfl | (simp only [sa_ap, si_ap, si_sa, sa_sa, sa_3, sa_4, sa_5, sa_6, sa_7, sa_8, ct_n, fq, up_us, up_up, c_44]; done) | (simp [sa_ap, si_ap, si_sa, sa_sa, sa_3, sa_4, sa_5, sa_6, sa_7, sa_8, ct_n, fq, up_us, up_up, c_44]; done))), rfl⟩
      · try simp only [sa_ap, si_ap, reduceIte, Nat.reduceEqDiff, up_us, lg_cmp_lt, lg_cmp_gt, lg_cmp_le, lg_cmp_ge] at c_44
        refine g_iconst C dX11_metShare_47 (v := 1) (by decide) ?_
        refine g_goto C dX11_metShare_48 (tgt := 52) (by decide) ?_
        refine g_iconst C dX11_metShare_52 (v := 1) (by decide) ?_
        refine g_callViW C dX11_metShare_53 (c_X11_fails_1 _ _ _ _ _ _ _ _ _ _ (by rfl) (by decide)) tw1412 tw1414 tp14 tw16 tw1415 (rv_X11 C) rfl ⟨by decide +kernel, by decide +kernel, rfl⟩ ⟨rfl, rfl⟩ (by rw [hR]; decide) (Nat.le_of_ble_eq_true rfl) (by rw [hR]; decide) (fun r_3 X1 M1 K1 h_4 => ?_)
        obtain ⟨rfl, hX1, hM1, hK1⟩ := h_4
        subst X1 M1 K1
        refine g_if_eq C dX11_metShare_56 (tgt := 63) (by decide) (fun c_56 => absurd c_56 (by decide)) (fun c_56 => ?_)
        refine g_fconst C dX11_metShare_59 ?_
        refine g_goto C dX11_metShare_60 (tgt := 71) (by decide) ?_
        refine g_fretW C hr hQ (Nat.le_refl _) (Nat.le_refl _) dX11_metShare_71 ?_
        exact ⟨(by first | with_reducible rfl | (subst ha; first | with_reducible rfl | (simp only [sa_ap, si_ap, si_sa, sa_sa, sa_3, sa_4, sa_5, sa_6, sa_7, sa_8, ct_n, fq, up_us, up_up, c_44]; done) | (simp [sa_ap, si_ap, si_sa, sa_sa, sa_3, sa_4, sa_5, sa_6, sa_7, sa_8, ct_n, fq, up_us, up_up, c_44]; done))), rfl, (by first | with_reducible rfl | (subst ha; first | with_reducible rfl | (simp only [sa_ap, si_ap, si_sa, sa_sa, sa_3, sa_4, sa_5, sa_6, sa_7, sa_8, ct_n, fq, up_us, up_up, c_44]; done) | (simp [sa_ap, si_ap, si_sa, sa_sa, sa_3, sa_4, sa_5, sa_6, sa_7, sa_8, ct_n, fq, up_us, up_up, c_44]; done))), rfl⟩
    | succ n ih =>
      intro i a hi ha
      refine g_iload_n C dX11_metShare_9 2 rfl ?_
      refine g_aload_n C dX11_metShare_10 0 rfl ?_
      refine gf_X11_rules C tw1282 dX11_metShare_11 ?_
      refine g_topi hz ?_
      refine g_icmp_ge C dX11_metShare_14 (tgt := 39) (by decide) (fun c_14 => absurd c_14 (nI_ge (a := i) (b := z) (by omega) (by omega))) (fun c_14 => ?_)
      refine g_iload_n C dX11_metShare_17 1 rfl ?_
      refine g_aload_n C dX11_metShare_18 0 rfl ?_
      refine g_iload_n C dX11_metShare_19 2 rfl ?_
      refine g_callViW C dX11_metShare_20 (c_X11_isMetNow _ _ _ _ _ _ _ (si M 100 0) _ i (by omega) (ho i (by omega)) zs hzs hzk hk2 h0) tw1613 tw1615 tp26 tw16 tw1616 (rv_X11 C) rfl ⟨by decide +kernel, by decide +kernel, rfl⟩ ⟨rfl, rfl⟩ (by rw [hR]; decide) (Nat.le_of_ble_eq_true rfl) (by rw [hR]; decide) (fun r_5 X1 M1 K1 h_6 => ?_)
      obtain ⟨er_5, hX1, hM1, hK1⟩ := h_6
      subst X1 M1 K1
      try simp only [sa_ap, si_ap, reduceIte, Nat.reduceEqDiff] at er_5
      have c_m := er_5
      rw [si_sa, md_met_t] at c_m
      refine g_if_eq C dX11_metShare_23 (tgt := 30) (by decide) (fun c_23 => ?_) (fun c_23 => ?_)
      · try simp only [sa_ap, si_ap, reduceIte, Nat.reduceEqDiff, up_us, lg_cmp_lt, lg_cmp_gt, lg_cmp_le, lg_cmp_ge] at c_23
        rw [c_m] at c_23
        refine g_iconst C dX11_metShare_30 (v := 0) (by decide) ?_
        refine g_iadd C dX11_metShare_31 ?_
        refine g_namei (fun v_7 ev_7 => ?_)
        refine g_istore_n C dX11_metShare_32 (L' := [(1, .int v_7), (0, .ref (gad G 42)), (2, .int (nI i))]) rfl (by rw [hL]; decide) ?_
        refine g_iinc C dX11_metShare_33 2 rfl (v := nI (i + 1)) (nI_1 _) (L' := [(2, .int (nI (i + 1))), (1, .int v_7), (0, .ref (gad G 42))]) rfl (by rw [hL]; decide) ?_
        refine g_goto C dX11_metShare_36 (tgt := 9) (by decide) ?_
        exact g_sub [2, 1, 0] rfl (g_M (by first | with_reducible rfl | (subst ha er_5 ev_7; first | with_reducible rfl | (simp only [sa_ap, si_ap, si_sa, sa_sa, sa_3, sa_4, sa_5, sa_6, sa_7, sa_8, ct_n, fq, up_us, up_up, c_23]; done) | (simp [sa_ap, si_ap, si_sa, sa_sa, sa_3, sa_4, sa_5, sa_6, sa_7, sa_8, ct_n, fq, up_us, up_up, c_23]; done))) (ih (i + 1) _ (by omega) (by first | with_reducible rfl | (subst ha er_5 ev_7; first | with_reducible rfl | (simp only [sa_ap, si_ap, si_sa, sa_sa, sa_3, sa_4, sa_5, sa_6, sa_7, sa_8, ct_n, fq, up_us, up_up, c_23]; done) | (simp [sa_ap, si_ap, si_sa, sa_sa, sa_3, sa_4, sa_5, sa_6, sa_7, sa_8, ct_n, fq, up_us, up_up, c_23]; done)))))
      · try simp only [sa_ap, si_ap, reduceIte, Nat.reduceEqDiff, up_us, lg_cmp_lt, lg_cmp_gt, lg_cmp_le, lg_cmp_ge] at c_23
        rw [c_m] at c_23
        refine g_iconst C dX11_metShare_26 (v := 1) (by decide) ?_
        refine g_goto C dX11_metShare_27 (tgt := 31) (by decide) ?_
        refine g_iadd C dX11_metShare_31 ?_
        refine g_namei (fun v_8 ev_8 => ?_)
        refine g_istore_n C dX11_metShare_32 (L' := [(1, .int v_8), (0, .ref (gad G 42)), (2, .int (nI i))]) rfl (by rw [hL]; decide) ?_
        refine g_iinc C dX11_metShare_33 2 rfl (v := nI (i + 1)) (nI_1 _) (L' := [(2, .int (nI (i + 1))), (1, .int v_8), (0, .ref (gad G 42))]) rfl (by rw [hL]; decide) ?_
        refine g_goto C dX11_metShare_36 (tgt := 9) (by decide) ?_
        exact g_sub [2, 1, 0] rfl (g_M (by first | with_reducible rfl | (subst ha er_5 ev_8; first | with_reducible rfl | (simp only [sa_ap, si_ap, si_sa, sa_sa, sa_3, sa_4, sa_5, sa_6, sa_7, sa_8, ct_n, fq, up_us, up_up, c_23]; done) | (simp [sa_ap, si_ap, si_sa, sa_sa, sa_3, sa_4, sa_5, sa_6, sa_7, sa_8, ct_n, fq, up_us, up_up, c_23]; done))) (ih (i + 1) _ (by omega) (by first | with_reducible rfl | (subst ha er_5 ev_8; first | with_reducible rfl | (simp only [sa_ap, si_ap, si_sa, sa_sa, sa_3, sa_4, sa_5, sa_6, sa_7, sa_8, ct_n, fq, up_us, up_up, c_23]; done) | (simp [sa_ap, si_ap, si_sa, sa_sa, sa_3, sa_4, sa_5, sa_6, sa_7, sa_8, ct_n, fq, up_us, up_up, c_23]; done)))))
  exact g_sub [2, 1, 0] rfl (g_M rfl (lp9 (z) 0 _ (by omega) (by first | with_reducible rfl | (first | with_reducible rfl | (simp only [sa_ap, si_ap, si_sa, sa_sa, sa_3, sa_4, sa_5, sa_6, sa_7, sa_8, ct_n, fq, up_us, up_up]; done) | (simp [sa_ap, si_ap, si_sa, sa_sa, sa_3, sa_4, sa_5, sa_6, sa_7, sa_8, ct_n, fq, up_us, up_up]; done)))))

set_option maxHeartbeats 400000 in
set_option maxRecDepth 100000 in
/-- meanFill.meanFill -/
theorem c_X11_meanFill (l : Launch) (D : va_G) (cy : Nat → ClassId) (A : Nat → Prop) (ad sad : Nat → Nat) (X M : XF) (K : KF) (h6 : ∀ i : Nat, i < 3 → 0 ≤ (M 46 i).toInt) : Met l yX11_meanFill (wsA yX11_meanFill cX11_meanFill 5 (some .double)) ({ frames := 1, cells := 0, slots := 0, locals := 22 }) (PcW D cy A ad sad X M K [.ref (ad 42)]) (QdW D cy A ad (fun r X1 M1 K1 => r = (if tk_cnt (M 43) 3 = 0 then FP.dconst0 else FP.ddiv (fs_n (M 46) (M 43) 3) (FP.i2d (tk_cnt (M 43) 3))) ∧ X1 = X ∧ M1 = si M 100 (if tk_cnt (M 43) 3 = 0 then 1 else 0) ∧ K1 = K)) 0 0 A := by
  refine met_ofW [(0, .ref (ad 42))] (by decide +kernel) (Nat.le_of_ble_eq_true rfl) rfl ?_
  intro G C hl hR hL hD hcy hA had hsa hr hQ
  subst hD hcy hA had hsa hl
  refine g_aload_n C dX11_meanFill_0 0 rfl ?_
  refine g_iconst C dX11_meanFill_1 (v := 0) (by decide) ?_
  refine pf_X11_thrown C tw1243 dX11_meanFill_2 ?_
  refine g_dconst C dX11_meanFill_5 ?_
  refine g_named (fun v_1 ev_1 => ?_)
  refine g_dstore_n C dX11_meanFill_6 (L' := [(1, .double v_1), (0, .ref (gad G 42))]) rfl (by rw [hL]; decide) ?_
  refine g_iconst C dX11_meanFill_7 (v := 0) (by decide) ?_
  refine g_istore_n C dX11_meanFill_8 (L' := [(3, .int 0), (1, .double v_1), (0, .ref (gad G 42))]) rfl (by rw [hL]; decide) ?_
  refine g_iconst C dX11_meanFill_9 (v := 0) (by decide) ?_
  refine g_istore C dX11_meanFill_10 (L' := [(4, .int 0), (3, .int 0), (1, .double v_1), (0, .ref (gad G 42))]) rfl (by rw [hL]; decide) ?_
  have lp12 : ∀ (n i : Nat) (a : UInt64) (b : Int32) (hi : i + n = 3) (ha : a = fs_n (M 46) (M 43) i) (hb : b = tk_cnt (M 43) i), GH G (WX G X (si M 100 0) K) [(0, .ref (gad G 42)), (1, .double a), (3, .int b), (4, .int (nI i))] 0 0 12 [] := by
    intro n
    induction n with
    | zero =>
      intro i a b hi ha hb
      obtain rfl : i = 3 := by omega
      refine g_iload C dX11_meanFill_12 3 rfl ?_
      refine g_iconst C dX11_meanFill_14 (v := 3) (by decide) ?_
      refine g_icmp_ge C dX11_meanFill_15 (tgt := 57) (by decide) (fun c_15 => ?_) (fun c_15 => absurd (nI_le (a := 3) (b := 3) (Nat.le_refl _) (by omega)) c_15)
      refine g_aload_n C dX11_meanFill_57 0 rfl ?_
      refine g_iload_n C dX11_meanFill_58 2 rfl ?_
      refine g_if_ne C dX11_meanFill_59 (tgt := 66) (by decide) (fun c_59 => ?_) (fun c_59 => ?_)
      · try simp only [sa_ap, si_ap, reduceIte, Nat.reduceEqDiff, up_us, lg_cmp_lt, lg_cmp_gt, lg_cmp_le, lg_cmp_ge] at c_59
        refine g_iconst C dX11_meanFill_66 (v := 0) (by decide) ?_
        refine g_iconst C dX11_meanFill_67 (v := 1) (by decide) ?_
        refine g_callViW C dX11_meanFill_68 (c_X11_fails_0 _ _ _ _ _ _ _ _ _ _ (by rfl)) tw1412 tw1414 tp14 tw16 tw1415 (rv_X11 C) rfl ⟨by decide +kernel, by decide +kernel, rfl⟩ ⟨rfl, rfl⟩ (by rw [hR]; decide) (Nat.le_of_ble_eq_true rfl) (by rw [hR]; decide) (fun r_2 X1 M1 K1 h_3 => ?_)
        obtain ⟨rfl, hX1, hM1, hK1⟩ := h_3
        subst X1 M1 K1
        refine g_if_eq C dX11_meanFill_71 (tgt := 78) (by decide) (fun c_71 => ?_) (fun c_71 => absurd (by decide) c_71)
        refine g_dload_n C dX11_meanFill_78 1 rfl ?_
        refine g_iload_n C dX11_meanFill_79 2 rfl ?_
        refine g_i2d C dX11_meanFill_80 ?_
        refine g_ddiv C dX11_meanFill_81 (by rw [ha, hb]; exact dk_n (dk_mean h6 (by rw [← hb]; exact c_59))) ?_
        refine g_dretW C hr hQ (Nat.le_refl _) (Nat.le_refl _) dX11_meanFill_82 ?_
        first | (subst ha hb; exact ⟨(if_neg c_59).symm, rfl, by rw [if_neg c_59], rfl⟩) | (subst ha hb; exact ⟨(if_pos c_59).symm, rfl, by rw [if_pos c_59, si_si], rfl⟩)
      · try simp only [sa_ap, si_ap, reduceIte, Nat.reduceEqDiff, up_us, lg_cmp_lt, lg_cmp_gt, lg_cmp_le, lg_cmp_ge] at c_59
        refine g_iconst C dX11_meanFill_62 (v := 1) (by decide) ?_
        refine g_goto C dX11_meanFill_63 (tgt := 67) (by decide) ?_
        refine g_iconst C dX11_meanFill_67 (v := 1) (by decide) ?_
        refine g_callViW C dX11_meanFill_68 (c_X11_fails_1 _ _ _ _ _ _ _ _ _ _ (by rfl) (by decide)) tw1412 tw1414 tp14 tw16 tw1415 (rv_X11 C) rfl ⟨by decide +kernel, by decide +kernel, rfl⟩ ⟨rfl, rfl⟩ (by rw [hR]; decide) (Nat.le_of_ble_eq_true rfl) (by rw [hR]; decide) (fun r_4 X1 M1 K1 h_5 => ?_)
        obtain ⟨rfl, hX1, hM1, hK1⟩ := h_5
        subst X1 M1 K1
        refine g_if_eq C dX11_meanFill_71 (tgt := 78) (by decide) (fun c_71 => absurd c_71 (by decide)) (fun c_71 => ?_)
        refine g_dconst C dX11_meanFill_74 ?_
        refine g_goto C dX11_meanFill_75 (tgt := 82) (by decide) ?_
        refine g_dretW C hr hQ (Nat.le_refl _) (Nat.le_refl _) dX11_meanFill_82 ?_
        first | (subst ha hb; exact ⟨(if_neg c_59).symm, rfl, by rw [if_neg c_59], rfl⟩) | (subst ha hb; exact ⟨(if_pos c_59).symm, rfl, by rw [if_pos c_59, si_si], rfl⟩)
    | succ n ih =>
      intro i a b hi ha hb
      refine g_iload C dX11_meanFill_12 3 rfl ?_
      refine g_iconst C dX11_meanFill_14 (v := 3) (by decide) ?_
      refine g_icmp_ge C dX11_meanFill_15 (tgt := 57) (by decide) (fun c_15 => absurd c_15 (nI_ge (a := i) (b := 3) (by omega) (by omega))) (fun c_15 => ?_)
      refine g_aload_n C dX11_meanFill_18 0 rfl ?_
      refine gf_X11_room C tw1258 dX11_meanFill_19 ?_
      refine g_iload C dX11_meanFill_22 3 rfl ?_
      refine al_43 C (by omega) dX11_meanFill_24 ?_
      refine g_if_le C dX11_meanFill_25 (tgt := 51) (by decide) (fun c_25 => ?_) (fun c_25 => ?_)
      · try simp only [sa_ap, si_ap, reduceIte, Nat.reduceEqDiff, up_us, lg_cmp_lt, lg_cmp_gt, lg_cmp_le, lg_cmp_ge] at c_25
        refine g_iinc C dX11_meanFill_51 3 rfl (v := nI (i + 1)) (nI_1 _) (L' := [(4, .int (nI (i + 1))), (0, .ref (gad G 42)), (1, .double a), (3, .int b)]) rfl (by rw [hL]; decide) ?_
        refine g_goto C dX11_meanFill_54 (tgt := 12) (by decide) ?_
        exact g_sub [1, 2, 3, 0] rfl (g_M (by first | with_reducible rfl | (subst ev_1 ha hb; first | with_reducible rfl | (simp only [sa_ap, si_ap, si_sa, sa_sa, sa_3, sa_4, sa_5, sa_6, sa_7, sa_8, fs_n, tk_cnt, up_us, up_up, c_25]; done) | (simp [sa_ap, si_ap, si_sa, sa_sa, sa_3, sa_4, sa_5, sa_6, sa_7, sa_8, fs_n, tk_cnt, up_us, up_up, c_25]; done))) (ih (i + 1) _ _ (by omega) (by first | with_reducible rfl | (subst ev_1 ha hb; first | with_reducible rfl | (simp only [sa_ap, si_ap, si_sa, sa_sa, sa_3, sa_4, sa_5, sa_6, sa_7, sa_8, fs_n, tk_cnt, up_us, up_up, c_25]; done) | (simp [sa_ap, si_ap, si_sa, sa_sa, sa_3, sa_4, sa_5, sa_6, sa_7, sa_8, fs_n, tk_cnt, up_us, up_up, c_25]; done))) (by first | with_reducible rfl | (subst ev_1 ha hb; first | with_reducible rfl | (simp only [sa_ap, si_ap, si_sa, sa_sa, sa_3, sa_4, sa_5, sa_6, sa_7, sa_8, fs_n, tk_cnt, up_us, up_up, c_25]; done) | (simp [sa_ap, si_ap, si_sa, sa_sa, sa_3, sa_4, sa_5, sa_6, sa_7, sa_8, fs_n, tk_cnt, up_us, up_up, c_25]; done)))))
      · try simp only [sa_ap, si_ap, reduceIte, Nat.reduceEqDiff, up_us, lg_cmp_lt, lg_cmp_gt, lg_cmp_le, lg_cmp_ge] at c_25
        refine g_dload_n C dX11_meanFill_28 1 rfl ?_
        refine g_aload_n C dX11_meanFill_29 0 rfl ?_
        refine gf_X11_inTank C tw1261 dX11_meanFill_30 ?_
        refine g_iload C dX11_meanFill_33 3 rfl ?_
        refine al_46 C (by omega) dX11_meanFill_35 ?_
        refine g_i2d C dX11_meanFill_36 ?_
        refine g_aload_n C dX11_meanFill_37 0 rfl ?_
        refine gf_X11_room C tw1258 dX11_meanFill_38 ?_
        refine g_iload C dX11_meanFill_41 3 rfl ?_
        refine al_43 C (by omega) dX11_meanFill_43 ?_
        refine g_i2d C dX11_meanFill_44 ?_
        refine g_ddiv C dX11_meanFill_45 (dk_n (dk_sh (h6 i (by omega)) c_25)) ?_
        refine g_dadd C dX11_meanFill_46 (dk_n (dk_add (by rw [ha]; exact fs_dk h6 i (by omega)) (dk_sh (h6 i (by omega)) c_25))) ?_
        refine g_named (fun v_6 ev_6 => ?_)
        refine g_dstore_n C dX11_meanFill_47 (L' := [(1, .double v_6), (0, .ref (gad G 42)), (3, .int b), (4, .int (nI i))]) rfl (by rw [hL]; decide) ?_
        obtain ⟨v_7, ev_7⟩ : ∃ v : Int32, v = b + 1 := ⟨_, rfl⟩
        refine g_iinc C dX11_meanFill_48 2 rfl (v := v_7) (by rw [ev_7]; rfl) (L' := [(3, .int v_7), (1, .double v_6), (0, .ref (gad G 42)), (4, .int (nI i))]) rfl (by rw [hL]; decide) ?_
        refine g_iinc C dX11_meanFill_51 3 rfl (v := nI (i + 1)) (nI_1 _) (L' := [(4, .int (nI (i + 1))), (3, .int v_7), (1, .double v_6), (0, .ref (gad G 42))]) rfl (by rw [hL]; decide) ?_
        refine g_goto C dX11_meanFill_54 (tgt := 12) (by decide) ?_
        exact g_sub [3, 2, 1, 0] rfl (g_M (by first | with_reducible rfl | (subst ev_1 ha hb ev_6 ev_7; first | with_reducible rfl | (simp only [sa_ap, si_ap, si_sa, sa_sa, sa_3, sa_4, sa_5, sa_6, sa_7, sa_8, fs_n, tk_cnt, up_us, up_up, c_25]; done) | (simp [sa_ap, si_ap, si_sa, sa_sa, sa_3, sa_4, sa_5, sa_6, sa_7, sa_8, fs_n, tk_cnt, up_us, up_up, c_25]; done))) (ih (i + 1) _ _ (by omega) (by first | with_reducible rfl | (subst ev_1 ha hb ev_6 ev_7; first | with_reducible rfl | (simp only [sa_ap, si_ap, si_sa, sa_sa, sa_3, sa_4, sa_5, sa_6, sa_7, sa_8, fs_n, tk_cnt, up_us, up_up, c_25]; done) | (simp [sa_ap, si_ap, si_sa, sa_sa, sa_3, sa_4, sa_5, sa_6, sa_7, sa_8, fs_n, tk_cnt, up_us, up_up, c_25]; done))) (by first | with_reducible rfl | (subst ev_1 ha hb ev_6 ev_7; first | with_reducible rfl | (simp only [sa_ap, si_ap, si_sa, sa_sa, sa_3, sa_4, sa_5, sa_6, sa_7, sa_8, fs_n, tk_cnt, up_us, up_up, c_25]; done) | (simp [sa_ap, si_ap, si_sa, sa_sa, sa_3, sa_4, sa_5, sa_6, sa_7, sa_8, fs_n, tk_cnt, up_us, up_up, c_25]; done)))))
  exact g_sub [3, 2, 1, 0] rfl (g_M rfl (lp12 (3) 0 _ _ (by omega) (by first | with_reducible rfl | (subst ev_1; first | with_reducible rfl | (simp only [sa_ap, si_ap, si_sa, sa_sa, sa_3, sa_4, sa_5, sa_6, sa_7, sa_8, fs_n, tk_cnt, up_us, up_up]; done) | (simp [sa_ap, si_ap, si_sa, sa_sa, sa_3, sa_4, sa_5, sa_6, sa_7, sa_8, fs_n, tk_cnt, up_us, up_up]; done))) (by first | with_reducible rfl | (subst ev_1; first | with_reducible rfl | (simp only [sa_ap, si_ap, si_sa, sa_sa, sa_3, sa_4, sa_5, sa_6, sa_7, sa_8, fs_n, tk_cnt, up_us, up_up]; done) | (simp [sa_ap, si_ap, si_sa, sa_sa, sa_3, sa_4, sa_5, sa_6, sa_7, sa_8, fs_n, tk_cnt, up_us, up_up]; done)))))

