/-! what both sides ask, in the same numbers -/
theorem lt64 (a b : Int32) : a.toInt64 < b.toInt64 ↔ a < b := by rw [Int64.lt_iff_toInt_lt, Int32.lt_iff_toInt_lt, Int32.toInt_toInt64, Int32.toInt_toInt64]
theorem le64 (a b : Int32) : a.toInt64 ≤ b.toInt64 ↔ a ≤ b := by rw [Int64.le_iff_toInt_le, Int32.le_iff_toInt_le, Int32.toInt_toInt64, Int32.toInt_toInt64]
theorem lin_inr (p a b : Int32) : lin p.toInt64 a.toInt64 b.toInt64 = inr a b p := by
  unfold lin inr
  simp only [lt64]
theorem k64_m1 : (-1 : Int64) = (-1 : Int32).toInt64 := by decide
theorem k64_m10 : (-10 : Int64) = (-10 : Int32).toInt64 := by decide
theorem k64_m600 : (-600 : Int64) = (-600 : Int32).toInt64 := by decide
theorem k64_m999 : (-999 : Int64) = (-999 : Int32).toInt64 := by decide
theorem k64_m9999 : (-9999 : Int64) = (-9999 : Int32).toInt64 := by decide
theorem k64_0 : (0 : Int64) = (0 : Int32).toInt64 := by decide
theorem k64_1 : (1 : Int64) = (1 : Int32).toInt64 := by decide
theorem k64_100 : (100 : Int64) = (100 : Int32).toInt64 := by decide
theorem k64_1000 : (1000 : Int64) = (1000 : Int32).toInt64 := by decide
theorem k64_100000 : (100000 : Int64) = (100000 : Int32).toInt64 := by decide
theorem k64_200 : (200 : Int64) = (200 : Int32).toInt64 := by decide
theorem k64_300 : (300 : Int64) = (300 : Int32).toInt64 := by decide
theorem k64_50 : (50 : Int64) = (50 : Int32).toInt64 := by decide
theorem k64_5000 : (5000 : Int64) = (5000 : Int32).toInt64 := by decide
theorem k64_600 : (600 : Int64) = (600 : Int32).toInt64 := by decide
theorem k64_7 : (7 : Int64) = (7 : Int32).toInt64 := by decide
theorem k64_8 : (8 : Int64) = (8 : Int32).toInt64 := by decide
theorem k64_99 : (99 : Int64) = (99 : Int32).toInt64 := by decide
theorem k64_999 : (999 : Int64) = (999 : Int32).toInt64 := by decide
theorem k64_9999 : (9999 : Int64) = (9999 : Int32).toInt64 := by decide
theorem k64_2 : (2 : Int64) = (2 : Int32).toInt64 := by decide
theorem k64_5 : (5 : Int64) = (5 : Int32).toInt64 := by decide
theorem kin (p a b : Int32) {A B : Int64} (ha : A = a.toInt64) (hb : B = b.toInt64) : lin p.toInt64 A B = inr a b p := by rw [ha, hb, lin_inr]
theorem inr_iff {lo hi p : Int32} : ¬ inr lo hi p = 0 ↔ lo.toInt ≤ p.toInt ∧ p.toInt ≤ hi.toInt := by
  have l1 := @Int32.lt_iff_toInt_lt p lo
  have l2 := @Int32.lt_iff_toInt_lt hi p
  unfold inr
  by_cases h1 : p < lo
  · rw [if_pos h1]
    have := l1.mp h1
    exact ⟨fun q => absurd rfl q, fun q => by omega⟩
  · rw [if_neg h1]
    have g1 : ¬ p.toInt < lo.toInt := fun q => h1 (l1.mpr q)
    by_cases h2 : hi < p
    · rw [if_pos h2]
      have := l2.mp h2
      exact ⟨fun q => absurd rfl q, fun q => by omega⟩
    · rw [if_neg h2]
      have g2 : ¬ hi.toInt < p.toInt := fun q => h2 (l2.mpr q)
      exact ⟨fun _ => by omega, fun _ => by decide⟩
theorem bel_iff {p s : Int32} : ¬ bel p s = 0 ↔ 0 ≤ p.toInt ∧ p.toInt < s.toInt := by
  have l1 := @Int32.lt_iff_toInt_lt p 0
  have l2 := @Int32.le_iff_toInt_le s p
  have z0 : (0 : Int32).toInt = 0 := rfl
  unfold bel
  by_cases h1 : p < 0
  · rw [if_pos h1]
    have := l1.mp h1
    exact ⟨fun q => absurd rfl q, fun q => by omega⟩
  · rw [if_neg h1]
    have g1 : ¬ p.toInt < (0 : Int32).toInt := fun q => h1 (l1.mpr q)
    by_cases h2 : s ≤ p
    · rw [if_pos h2]
      have := l2.mp h2
      exact ⟨fun q => absurd rfl q, fun q => by omega⟩
    · rw [if_neg h2]
      have g2 : ¬ s.toInt ≤ p.toInt := fun q => h2 (l2.mpr q)
      exact ⟨fun _ => by omega, fun _ => by decide⟩
theorem bo_eq {a b : Int32} (ha : isBo a) (hb : isBo b) (h : ¬ a = 0 ↔ ¬ b = 0) : a = b := by
  rcases ha with rfl | rfl <;> rcases hb with rfl | rfl
  · rfl
  · exact absurd rfl (h.mpr (by decide))
  · exact absurd rfl (h.mp (by decide))
  · rfl
/-- below a number of things -/
theorem lin_bel {p : Int32} {z : Nat} (hz : z < 2 ^ 31) : lin p.toInt64 0 (nI z - 1).toInt64 = bel p (nI z) := by
  rw [k64_0, lin_inr]
  refine bo_eq (inr_bo _ _ _) (bel_bo _ _) ?_
  rw [inr_iff, bel_iff, nI_toInt hz]
  have z0 : (0 : Int32).toInt = 0 := rfl
  have e : (nI z - 1).toInt = (z : Int) - 1 := by
    by_cases h : z = 0
    · subst h; decide
    · obtain ⟨k, rfl⟩ : ∃ k, z = k + 1 := ⟨z - 1, by omega⟩
      rw [nI_pred, nI_toInt (by omega)]
      omega
  rw [e, z0]
  omega
theorem kbel (p b : Int32) (z : Int32) {B : Int64} (hz : z = b + 1 ∧ 0 ≤ b.toInt ∧ b.toInt < 1000) (hb : B = b.toInt64) : lin p.toInt64 0 B = bel p z := by
  rw [k64_0, hb, lin_inr]
  refine bo_eq (inr_bo _ _ _) (bel_bo _ _) ?_
  rw [inr_iff, bel_iff]
  have z0 : (0 : Int32).toInt = 0 := rfl
  have e : z.toInt = b.toInt + 1 := by
    obtain ⟨j, hj, ej⟩ := nI_of (x := b) (by rw [Int32.lt_iff_toInt_lt]; omega)
    rw [hz.1, ej, nI_1]
    have := nI_toInt hj
    rw [ej] at hz
    rw [nI_toInt (by omega), this]
    omega
  rw [e, z0]
  omega
theorem no_bel {p : Int32} {z : Nat} (hz : z < 2 ^ 31) : md_no p (nI z) = if bel p (nI z) = 0 then 1 else 0 := by unfold md_no; rw [lin_bel hz]
theorem nt_bel (p : Int32) : md_nt p = if bel p 3 = 0 then 1 else 0 := by unfold md_nt; rw [kbel p 2 3 (by decide) k64_2]
theorem nc_bel (p : Int32) : md_nc p = if bel p 6 = 0 then 1 else 0 := by unfold md_nc; rw [kbel p 5 6 (by decide) k64_5]
theorem ni_0 {c : Prop} [Decidable c] : ((if c then (1 : Int32) else 0) = 0) = ¬ c := by
  by_cases h : c <;> simp [h]
theorem ni_1 {c : Prop} [Decidable c] : ((if c then (0 : Int32) else 1) = 0) = c := by
  by_cases h : c <;> simp [h]
theorem it_no {c : Prop} [Decidable c] {α : Type} (a b : α) : (if ¬ c then a else b) = if c then b else a := by
  by_cases h : c <;> simp [h]
theorem cd_tank (p1 p2 p3 p4 : Int32) : xk_tank p1 p2 p3 p4 = xs_tank p1 p2 p3 p4 := by
  unfold xk_tank xs_tank
  simp only [nt_bel, ni_0, it_no, (kin p2 0 100000 k64_0 k64_100000), (kin p3 0 1000 k64_0 k64_1000), (kin p4 0 100 k64_0 k64_100)]
theorem cd_b3 (p : Int32) : xk_b p 3 = xs_b (md_nt p) := by
  unfold xk_b xs_b
  rw [nt_bel]
  by_cases h : bel p 3 = 0 <;> simp [h]
theorem cd_b6 (p : Int32) : xk_b p 6 = xs_b (md_nc p) := by
  unfold xk_b xs_b
  rw [nc_bel]
  by_cases h : bel p 6 = 0 <;> simp [h]
theorem cd_bz {z : Nat} (hz : z < 2 ^ 31) (p : Int32) : xk_b p (nI z) = xs_b (md_no p (nI z)) := by
  unfold xk_b xs_b
  rw [no_bel hz]
  by_cases h : bel p (nI z) = 0 <;> simp [h]
theorem cd_bz2 {z : Nat} (hz : z < 2 ^ 31) (p : Int32) : xk_b p (nI z) = md_no p (nI z) := by
  unfold xk_b
  rw [no_bel hz]
theorem cd_drain (p1 p2 : Int32) : xk_drain p1 p2 = xs_drain p1 p2 := by
  unfold xk_drain xs_drain
  simp only [nt_bel, ni_0, it_no, (kin p2 1 100000 k64_1 k64_100000)]
theorem pf_go (s c : Int32) : (if xk_pf s = 0 then 0 else c) = xs_go s c := by
  unfold xk_pf xs_go
  by_cases h : md_ic s = 0
  · by_cases h2 : md_hl s = 0 <;> simp [h, h2]
  · simp [h]
theorem cd_step {z : Nat} (hz : z ≤ 16) (st p1 p2 : Int32) : xk_step (nI z) st p1 p2 = xs_step (nI z) st p1 p2 := by
  unfold xk_step xs_step
  rw [(kin p1 (-600) (-1) k64_m600 k64_m1), (kin p2 1 300 k64_1 k64_300), pf_go]
  have e : ((16 : Int32) ≤ nI z) = (nI z = 16) := by
    apply propext
    rw [show (16 : Int32) = nI 16 from rfl, nI_leI (by omega) (by omega), nI_eq (by omega) (by omega)]
    omega
  simp only [e]
theorem cd_after {z : Nat} (hz : z ≤ 16) (st p1 p2 : Int32) : xk_after (nI z) st p1 p2 = xs_after (nI z) st p1 p2 := by
  unfold xk_after xs_after
  simp only [no_bel (show z < 2 ^ 31 by omega), ni_0, it_no, pf_go]
theorem cd_sense (p1 p2 : Int32) : xk_sense p1 p2 = xs_sense p1 p2 := by
  unfold xk_sense xs_sense
  rw [(kbel p1 8 9 (by decide) k64_8), (kin p2 (-9999) 9999 k64_m9999 k64_9999)]
theorem cd_inh (o : Nat → Int32) (p1 p2 : Int32) : xk_inh o p1 p2 = xs_inh o p1 p2 := by
  unfold xk_inh xs_inh sn_last
  rw [(kbel p1 8 9 (by decide) k64_8)]
  split
  · rfl
  · split
    · rfl
    · split
      · split <;> simp
      · simp
theorem cd_wind (p : Int32) : xk_w 0 200 p = xs_wind p := by
  unfold xk_w xs_wind
  rw [(kin p 0 200 k64_0 k64_200)]
theorem cd_boat (p1 p2 p3 : Int32) : xk_boat p1 p2 p3 = xs_boat p1 p2 p3 := by
  unfold xk_boat xs_boat
  rw [(kbel p1 7 8 (by decide) k64_7), (kin p2 0 50 k64_0 k64_50), (kin p3 0 99 k64_0 k64_99)]
theorem cd_may {z : Nat} (hz : z ≤ 12) (p1 p2 : Int32) : xk_may (nI z) p1 p2 = xs_may (nI z) p1 p2 := by
  unfold xk_may xs_may
  simp only [no_bel (show z < 2 ^ 31 by omega), nc_bel, ni_0, it_no]
theorem cd_track (p1 p2 : Int32) : xk_track p1 p2 = xs_track p1 p2 := by
  unfold xk_track xs_track
  rw [(kbel p1 1 2 (by decide) k64_1), (kin p2 (-999) 999 k64_m999 k64_999)]
theorem cd_begin (st p1 p2 p3 : Int32) : xk_begin st p1 p2 p3 = xs_begin st p1 p2 p3 := by
  unfold xk_begin xs_begin
  rw [(kin p1 (-600) (-10) k64_m600 k64_m10), (kin p2 0 5000 k64_0 k64_5000), (kin p3 p2 5000 rfl k64_5000), pf_go]
theorem cd_rec (f : Nat → Int32) {z5 : Nat} (hz : z5 ≤ 6) (st c p1 : Int32) : xk_rec f z5 st c p1 = xs_rec f (nI z5) st c p1 := by
  unfold xk_rec xs_rec
  simp only [no_bel (show z5 < 2 ^ 31 by omega), ni_0, it_no]
theorem cd_pass (s p1 : Int32) : xk_pass s p1 = xs_pass s p1 := by
  unfold xk_pass xs_pass
  rw [(kin p1 1 600 k64_1 k64_600)]
/-! ===== Int32 by its bits: bt x i ===== -/
def bt (x : Int32) (i : Nat) : Bool := x.toBitVec.getLsbD i
theorem b_ext {x y : Int32} (h : ∀ i, i < 32 → bt x i = bt y i) : x = y := Int32.toBitVec_inj.mp (BitVec.eq_of_getLsbD_eq (fun i hi => h i hi))
theorem b_or (x y : Int32) (i : Nat) : bt (x ||| y) i = (bt x i || bt y i) := by unfold bt; rw [Int32.toBitVec_or, BitVec.getLsbD_or]
theorem b_and (x y : Int32) (i : Nat) : bt (x &&& y) i = (bt x i && bt y i) := by unfold bt; rw [Int32.toBitVec_and, BitVec.getLsbD_and]
theorem b_xor (x y : Int32) (i : Nat) : bt (x ^^^ y) i = (bt x i ^^ bt y i) := by unfold bt; rw [Int32.toBitVec_xor, BitVec.getLsbD_xor]
theorem b_big {x : Int32} {i : Nat} (h : 32 ≤ i) : bt x i = false := BitVec.getLsbD_of_ge _ _ h
theorem b_255 (i : Nat) : bt 255 i = decide (i < 8) := by
  rcases Nat.lt_or_ge i 32 with h | h
  · exact (by decide +kernel : ∀ i, i < 32 → bt 255 i = decide (i < 8)) i h
  · rw [b_big h, decide_eq_false (by omega)]
theorem b_65535 (i : Nat) : bt 65535 i = decide (i < 16) := by
  rcases Nat.lt_or_ge i 32 with h | h
  · exact (by decide +kernel : ∀ i, i < 32 → bt 65535 i = decide (i < 16)) i h
  · rw [b_big h, decide_eq_false (by omega)]
theorem b_m1 : ∀ i, i < 32 → bt (-1) i = true := by decide +kernel
theorem b_0 (i : Nat) : bt 0 i = false := BitVec.getLsbD_zero
theorem s_l : ∀ n, n < 32 → ((nI n &&& 31).toBitVec.smod 32).toNat = n := by decide +kernel
theorem s_u : ∀ n, n < 32 → (((nI n).toUInt32 &&& Int32.toUInt32 31).toBitVec % 32).toNat = n := by decide +kernel
theorem b_shl (n : Nat) (hn : n < 32) (x : Int32) {i : Nat} (hi : i < 32) : bt (x <<< (nI n &&& 31)) i = (decide (n ≤ i) && bt x (i - n)) := by
  unfold bt
  rw [Int32.toBitVec_shiftLeft]
  show (x.toBitVec <<< ((nI n &&& 31).toBitVec.smod 32).toNat).getLsbD i = _
  rw [s_l n hn, BitVec.getLsbD_shiftLeft]
  rcases Nat.lt_or_ge i n with h | h
  · simp [h, Nat.not_le.mpr h]
  · simp [hi, h, Nat.not_lt.mpr h]
theorem b_ushr (n : Nat) (hn : n < 32) (x : Int32) (i : Nat) : bt ((x.toUInt32 >>> ((nI n).toUInt32 &&& Int32.toUInt32 31)).toInt32) i = bt x (n + i) := by
  show (x.toUInt32 >>> ((nI n).toUInt32 &&& Int32.toUInt32 31)).toBitVec.getLsbD i = x.toUInt32.toBitVec.getLsbD (n + i)
  rw [UInt32.toBitVec_shiftRight]
  show (x.toUInt32.toBitVec >>> (((nI n).toUInt32 &&& Int32.toUInt32 31).toBitVec % 32).toNat).getLsbD i = _
  rw [s_u n hn, BitVec.getLsbD_ushiftRight]
theorem b_sshr (n : Nat) (hn : n < 32) (x : Int32) {i : Nat} (hi : i < 32) : bt (x >>> (nI n &&& 31)) i = if n + i < 32 then bt x (n + i) else bt x 31 := by
  unfold bt
  rw [Int32.toBitVec_shiftRight]
  show (x.toBitVec.sshiftRight ((nI n &&& 31).toBitVec.smod 32).toNat).getLsbD i = _
  rw [s_l n hn, BitVec.getLsbD_sshiftRight, BitVec.msb_eq_getLsbD_last]
  simp [hi]
theorem b_shl8 (x : Int32) {i : Nat} (hi : i < 32) : bt (x <<< ((8 : Int32) &&& 31)) i = (decide (8 ≤ i) && bt x (i - 8)) := b_shl 8 (by omega) x hi
theorem b_shl16 (x : Int32) {i : Nat} (hi : i < 32) : bt (x <<< ((16 : Int32) &&& 31)) i = (decide (16 ≤ i) && bt x (i - 16)) := b_shl 16 (by omega) x hi
theorem b_shl24 (x : Int32) {i : Nat} (hi : i < 32) : bt (x <<< ((24 : Int32) &&& 31)) i = (decide (24 ≤ i) && bt x (i - 24)) := b_shl 24 (by omega) x hi
theorem b_sshr8 (x : Int32) {i : Nat} (hi : i < 32) : bt (x >>> ((8 : Int32) &&& 31)) i = if 8 + i < 32 then bt x (8 + i) else bt x 31 := b_sshr 8 (by omega) x hi
theorem bt1 : ∀ k, k < 32 → bt 1 k = decide (k = 0) := by decide +kernel
theorem and1 (y : Int32) : y &&& 1 = if bt y 0 then 1 else 0 := by
  refine b_ext (fun i hi => ?_)
  rw [b_and, bt1 i hi]
  by_cases h : i = 0
  · subst h
    cases bt y 0 <;> simp [bt1, b_0]
  · cases bt y 0 <;> simp [h, b_0, bt1 i hi]
theorem bt_sh {i : Nat} (hi : i < 32) (x : Int32) : bt (x >>> (nI i &&& 31)) 0 = bt x i := by
  rw [b_sshr i hi x (by omega), if_pos (by omega)]
  rfl
theorem bit_0 {i : Nat} (hi : i < 32) (x : Int32) : ((x >>> (nI i &&& 31)) &&& 1 = 0) = (bt x i = false) := by
  rw [and1, bt_sh hi]
  cases bt x i <;> simp
theorem bit_1 {i : Nat} (hi : i < 32) (x : Int32) : ((x >>> (nI i &&& 31)) &&& 1 = 1) = (bt x i = true) := by
  rw [and1, bt_sh hi]
  cases bt x i <;> simp
theorem bt_one {n i : Nat} (hn : n < 32) (hi : i < 32) : bt (1 <<< (nI n &&& 31)) i = decide (i = n) := by
  rw [b_shl n hn 1 hi]
  by_cases h : n ≤ i
  · rw [bt1 _ (by omega)]
    by_cases e : i = n
    · subst e; simp
    · simp [h, e]; omega
  · have : ¬ i = n := by omega
    simp [h, this]
theorem bt_nt {i : Nat} (hi : i < 32) (d : Int32) : bt (nt d) i = !bt d i := by
  unfold nt
  rw [b_xor, b_m1 i hi]
  cases bt d i <;> rfl
theorem eq0_bt {x : Int32} : x = 0 ↔ ∀ i, i < 32 → bt x i = false := by
  constructor
  · intro h i _
    rw [h, b_0]
  · intro h
    exact b_ext (fun i hi => by rw [h i hi, b_0])
theorem and_nt {p d : Int32} : (p &&& nt d) = 0 ↔ ∀ i, i < 32 → bt p i = true → bt d i = true := by
  rw [eq0_bt]
  constructor
  · intro h i hi hp
    have := h i hi
    rw [b_and, bt_nt hi, hp] at this
    cases hd : bt d i
    · rw [hd] at this; exact absurd this (by decide)
    · rfl
  · intro h i hi
    rw [b_and, bt_nt hi]
    cases hp : bt p i
    · rfl
    · rw [h i hi hp]; rfl
theorem sp_on_bt (s : Nat → Int32) : ∀ z, z ≤ 31 → ∀ i, i < 32 → bt (sp_on s z) i = decide (i < z ∧ s i = 101)
  | 0, _, i, _ => by
    show bt 0 i = _
    rw [b_0]
    simp
  | z + 1, hz, i, hi => by
    have ih := sp_on_bt s z (by omega) i hi
    show bt (sp_on s z ||| (if s z = 101 then 1 <<< (nI z &&& 31) else 0)) i = _
    rw [b_or, ih]
    by_cases h : s z = 101
    · rw [if_pos h, bt_one (by omega) hi]
      by_cases e : i = z
      · subst e; simp [h]
      · have : (i < z + 1) = (i < z) := by apply propext; omega
        simp [e, this]
    · rw [if_neg h, b_0]
      by_cases e : i = z
      · subst e; simp [h]
      · have : (i < z + 1) = (i < z) := by apply propext; omega
        simp [this]
theorem md_ad_iff (s : Nat → Int32) (p : Int32) : ∀ z, z ≤ 31 → (¬ md_ad s p z = 0 ↔ ∀ i, i < z → bt p i = true → s i = 101)
  | 0, _ => ⟨fun _ i hi => absurd hi (Nat.not_lt_zero i), fun _ => (by decide : ¬ (1 : Int32) = 0)⟩
  | z + 1, hz => by
    have ih := md_ad_iff s p z (by omega)
    show ¬ (if md_ad s p z = 0 then 0 else if (p >>> (nI z &&& 31)) &&& 1 = 0 then 1 else if s z = 101 then 1 else 0) = 0 ↔ _
    have b0 := bit_0 (i := z) (by omega) p
    by_cases h : md_ad s p z = 0
    · rw [if_pos h]
      refine ⟨fun q => absurd rfl q, fun q => absurd h (ih.mpr (fun i hi hp => q i (by omega) hp))⟩
    · rw [if_neg h]
      have h' := ih.mp h
      cases hb : bt p z
      · rw [if_pos (b0 ▸ hb)]
        refine ⟨fun _ i hi hp => ?_, fun _ => by decide⟩
        by_cases e : i = z
        · subst e; rw [hb] at hp; exact absurd hp (by decide)
        · exact h' i (by omega) hp
      · rw [if_neg (fun q => by rw [b0, hb] at q; exact absurd q (by decide))]
        by_cases e : s z = 101
        · rw [if_pos e]
          refine ⟨fun _ i hi hp => ?_, fun _ => by decide⟩
          by_cases e' : i = z
          · subst e'; exact e
          · exact h' i (by omega) hp
        · rw [if_neg e]
          exact ⟨fun q => absurd rfl q, fun q => absurd (q z (by omega) hb) e⟩
/-- a set of the first z things -/
def bw (z : Nat) (p : Int32) : Prop := ∀ i, z ≤ i → i < 32 → bt p i = false
theorem bw.mono {z z' : Nat} {p : Int32} (h : bw z p) (hz : z ≤ z') : bw z' p := fun i h1 h2 => h i (by omega) h2
theorem bw_0 (z : Nat) : bw z 0 := fun i _ _ => b_0 i
theorem and_on {s : Nat → Int32} {p : Int32} {z : Nat} (hz : z ≤ 31) (hp : bw z p) : (p &&& nt (sp_on s z)) = 0 ↔ ¬ md_ad s p z = 0 := by
  rw [and_nt, md_ad_iff s p z hz]
  constructor
  · intro h i hi hb
    have := h i (by omega) hb
    rw [sp_on_bt s z hz i (by omega)] at this
    exact (of_decide_eq_true this).2
  · intro h i hi hb
    rw [sp_on_bt s z hz i hi]
    by_cases hl : i < z
    · exact decide_eq_true ⟨hl, h i hl hb⟩
    · rw [hp i (by omega) hi] at hb
      exact absurd hb (by decide)
theorem ad_eq {s : Nat → Int32} {p : Int32} {z : Nat} (hz : z ≤ 31) (hp : bw z p) : adn (p &&& nt (sp_on s z)) = md_ad s p z := by
  refine bo_eq (adn_bo _) (md_ad_bo _ _ _) ?_
  rw [← and_on hz hp]
  unfold adn
  by_cases h : p &&& nt (sp_on s z) = 0 <;> simp [h]
theorem bt_nI (j k : Nat) (hk : k < 32) : bt (nI j) k = j.testBit k := by
  show (BitVec.ofNat 32 j).getLsbD k = _
  rw [BitVec.getLsbD_ofNat]
  simp [hk]
theorem bw_iff {z : Nat} (hz : z ≤ 16) (p : Int32) : bw z p ↔ 0 ≤ p.toInt ∧ p.toInt < ((2 ^ z : Nat) : Int) := by
  have h16 : 2 ^ z ≤ 2 ^ 16 := Nat.pow_le_pow_right (by decide) hz
  constructor
  · intro h
    have hp : ¬ p < 0 := fun q => by
      have h31 := h 31 (by omega) (by omega)
      have hneg : p.toInt < 0 := by
        have := Int32.lt_iff_toInt_lt.mp q
        have z0 : (0 : Int32).toInt = 0 := rfl
        omega
      have hm : p.toBitVec.msb = true := by
        rw [BitVec.msb_eq_toInt]
        exact decide_eq_true hneg
      rw [BitVec.msb_eq_getLsbD_last] at hm
      have : bt p 31 = true := hm
      rw [h31] at this
      exact absurd this (by decide)
    obtain ⟨j, hj, ej⟩ := nI_of hp
    have hlt : j < 2 ^ z := Nat.lt_pow_two_of_testBit j (fun i hi => by
      by_cases h32 : i < 32
      · rw [← bt_nI j i h32, ← ej]
        exact h i hi h32
      · exact Nat.testBit_lt_two_pow (Nat.lt_of_lt_of_le hj (Nat.pow_le_pow_right (by decide) (by omega))))
    rw [ej, nI_toInt hj]
    omega
  · intro h i h1 h2
    obtain ⟨j, hj, ej⟩ := nI_of (x := p) (fun q => by
      have := Int32.lt_iff_toInt_lt.mp q
      have z0 : (0 : Int32).toInt = 0 := rfl
      omega)
    rw [ej, nI_toInt hj] at h
    rw [ej, bt_nI j i h2]
    exact Nat.testBit_lt_two_pow (Nat.lt_of_lt_of_le (by omega : j < 2 ^ z) (Nat.pow_le_pow_right (by decide) h1))
theorem all_eq {z : Nat} (hz : z ≤ 16) (p : Int32) : adn (ush p (nI z)) = lin p.toInt64 0 ((1 <<< (nI z &&& 31)) - 1).toInt64 := by
  have e : (1 : Int32) <<< (nI z &&& 31) = nI (2 ^ z) := (by decide +kernel : ∀ z, z < 17 → (1 : Int32) <<< (nI z &&& 31) = nI (2 ^ z)) z (by omega)
  have h16 : 2 ^ z ≤ 2 ^ 16 := Nat.pow_le_pow_right (by decide) hz
  rw [e, lin_bel (z := 2 ^ z) (by omega)]
  refine bo_eq (adn_bo _) (bel_bo _ _) ?_
  rw [bel_iff, nI_toInt (by omega), ← bw_iff hz]
  have hu : ush p (nI z) = 0 ↔ bw z p := by
    unfold ush
    rw [eq0_bt]
    constructor
    · intro h i h1 h2
      have := h (i - z) (by omega)
      rw [b_ushr z (by omega)] at this
      rw [show z + (i - z) = i by omega] at this
      exact this
    · intro h i hi
      rw [b_ushr z (by omega)]
      by_cases hl : z + i < 32
      · exact h (z + i) (by omega) hl
      · exact b_big (by omega)
  unfold adn
  by_cases h : ush p (nI z) = 0
  · simp [h, hu.mp h]
  · simp [h]
    exact fun q => h (hu.mpr q)
theorem may_bt {c : Nat} (hc : c < 32) (w : Int32) : rl_may w (nI c) = if bt w c then 1 else 0 := by
  have b1 := bit_1 hc w
  unfold rl_may
  by_cases h : bt w c = true
  · rw [if_pos (b1 ▸ h), if_pos h]
  · rw [if_neg (fun q => h (b1 ▸ q)), if_neg h]
theorem or_bt {c i : Nat} (hc : c < 32) (hi : i < 32) (w : Int32) : bt (w ||| (1 <<< (nI c &&& 31))) i = (bt w i || decide (i = c)) := by
  rw [b_or, bt_one hc hi]
