/-! the parts, on both sides -/
theorem nI_of' {x : Int32} (h : 0 ≤ x.toInt) : ∃ j : Nat, x = nI j ∧ j < 2 ^ 31 ∧ x.toInt = j := by
  obtain ⟨j, hj, ej⟩ := nI_of (x := x) (fun q => by
    have := Int32.lt_iff_toInt_lt.mp q
    have z0 : (0 : Int32).toInt = 0 := rfl
    omega)
  exact ⟨j, ej, hj, by rw [ej, nI_toInt hj]⟩
theorem lN_div {a d : Nat} (ha : a < 2 ^ 31) (hd : d < 2 ^ 31) : lN a / lN d = lN (a / d) := by
  apply Int64.toInt_inj.mp
  have h1 : a / d < 2 ^ 31 := Nat.lt_of_le_of_lt (Nat.div_le_self a d) ha
  rw [Int64.toInt_div_of_ne_left (lN a) (lN d) (fun q => by have := congrArg Int64.toInt q; rw [lN_toInt ha] at this; have e : Int64.minValue.toInt = -9223372036854775808 := rfl; omega), lN_toInt ha, lN_toInt hd, lN_toInt h1]
  rfl
/-- what boils away -/
theorem boil_eq {a b : Int32} (ha : 0 ≤ a.toInt ∧ a.toInt ≤ 100000) (hb : 0 ≤ b.toInt ∧ b.toInt ≤ 100) : ∃ m k : Nat, a = nI m ∧ b = nI k ∧ m ≤ 100000 ∧ k ≤ 100 ∧ a * b / 1000 = nI (m * k / 1000) ∧ (a.toInt64 * b.toInt64 / 1000).toInt32 = nI (m * k / 1000) := by
  obtain ⟨m, em, hm, em'⟩ := nI_of' ha.1
  obtain ⟨k, ek, hk, ek'⟩ := nI_of' hb.1
  have hmk : m * k ≤ 100000 * 100 := Nat.mul_le_mul (by omega) (by omega)
  refine ⟨m, k, em, ek, by omega, by omega, ?_, ?_⟩
  · rw [em, ek, pk_mul]
    exact pk_div (d := 1000) (by omega) (by decide) (by decide)
  · rw [em, ek, nI_l hm, nI_l hk, lN_mul, show (1000 : Int64) = lN 1000 from rfl, lN_div (by omega) (by decide), lN_i]
theorem tk_min_int (x y : Int32) : (tk_min x y).toInt = min x.toInt y.toInt := by
  unfold tk_min
  have := @Int32.lt_iff_toInt_lt y x
  by_cases h : y < x
  · rw [if_pos h]; have := this.mp h; omega
  · rw [if_neg h]
    have : ¬ y.toInt < x.toInt := fun q => h (this.mpr q)
    omega
def R_tk (X M : XF) : Prop := X 2 = M 43 ∧ X 3 = M 44 ∧ X 4 = M 45 ∧ X 5 = M 46 ∧ X 6 = M 47 ∧ (∀ i, isBo (X 6 i)) ∧ ∀ i, (0 ≤ (X 2 i).toInt ∧ (X 2 i).toInt ≤ 100000) ∧ (0 ≤ (X 3 i).toInt ∧ (X 3 i).toInt ≤ 1000) ∧ (0 ≤ (X 4 i).toInt ∧ (X 4 i).toInt ≤ 100) ∧ 0 ≤ (X 5 i).toInt ∧ (X 5 i).toInt ≤ (X 2 i).toInt
theorem upd_at (f : Nat → Int32) (i j : Nat) (x : Int32) : upd f i x j = if j = i then x else f j := rfl
theorem tk1_eq {a b o rm rt : Int32} (ha : 0 ≤ a.toInt ∧ a.toInt ≤ 100000) (hb : 0 ≤ b.toInt ∧ b.toInt ≤ 100) (hr : 0 ≤ rm.toInt ∧ rm.toInt ≤ 100000) (hrt : 0 ≤ rt.toInt ∧ rt.toInt ≤ 1000) (hle : a.toInt ≤ rm.toInt) :
    (if o = 0 then a - a * b / 1000 else tk_min rm (a - a * b / 1000 + rt)) = md_tk1 a b o rm rt ∧ 0 ≤ (md_tk1 a b o rm rt).toInt ∧ (md_tk1 a b o rm rt).toInt ≤ rm.toInt := by
  obtain ⟨m, k, em, ek, hm, hk, e1, e2⟩ := boil_eq ha hb
  have hmk : m * k / 1000 ≤ m := by
    have : m * k ≤ m * 1000 := Nat.mul_le_mul_left m (by omega)
    omega
  obtain ⟨w, ew, hw, ew'⟩ := nI_of' hrt.1
  have em' : a.toInt = m := by rw [em, nI_toInt (by omega)]
  unfold md_tk1
  rw [e1, e2]
  refine ⟨rfl, ?_⟩
  rw [em, pk_sub hmk, ew, nI_add]
  by_cases ho : o = 0
  · rw [if_pos ho, nI_toInt (by omega)]
    omega
  · rw [if_neg ho, tk_min_int, nI_toInt (by omega)]
    omega
theorem tk_fill_eq {X M : XF} (h : R_tk X M) : ∀ n, tk_fill (X 2) (X 3) (X 4) (X 6) (X 5) n = md_tk (M 43) (M 44) (M 45) (M 47) (M 46) n ∧ ∀ i, 0 ≤ (tk_fill (X 2) (X 3) (X 4) (X 6) (X 5) n i).toInt ∧ (tk_fill (X 2) (X 3) (X 4) (X 6) (X 5) n i).toInt ≤ (X 2 i).toInt
  | 0 => ⟨h.2.2.2.1, fun i => (h.2.2.2.2.2.2 i).2.2.2⟩
  | n + 1 => by
    obtain ⟨ih1, ih2⟩ := tk_fill_eq h n
    obtain ⟨h1, h2, h3, h4, h5, h6, h7⟩ := h
    have b := h7 n
    have q := ih2 n
    have e := tk1_eq (a := tk_fill (X 2) (X 3) (X 4) (X 6) (X 5) n n) (b := X 4 n) (o := X 6 n) (rm := X 2 n) (rt := X 3 n) ⟨q.1, by omega⟩ b.2.2.1 b.1 b.2.1 q.2
    have st : tk_fill (X 2) (X 3) (X 4) (X 6) (X 5) (n + 1) = upd (tk_fill (X 2) (X 3) (X 4) (X 6) (X 5) n) n (md_tk1 (tk_fill (X 2) (X 3) (X 4) (X 6) (X 5) n n) (X 4 n) (X 6 n) (X 2 n) (X 3 n)) := by
      show tk_step _ _ _ _ n _ = _
      rw [← e.1]
      unfold tk_step
      by_cases ho : X 6 n = 0
      · rw [if_pos ho, if_pos ho]
      · rw [if_neg ho, if_neg ho, up_up]
    constructor
    · rw [st]
      show _ = upd (md_tk (M 43) (M 44) (M 45) (M 47) (M 46) n) n (md_tk1 (md_tk (M 43) (M 44) (M 45) (M 47) (M 46) n n) (M 45 n) (M 47 n) (M 43 n) (M 44 n))
      rw [← ih1, h1, h2, h3, h5]
    · intro i
      rw [st, upd_at]
      by_cases hi : i = n
      · rw [if_pos hi, hi]; exact e.2
      · rw [if_neg hi]; exact ih2 i
theorem R_tk.second {X M : XF} (h : R_tk X M) : R_tk (sc_1 X) (gp_1 M) := by
  have e := tk_fill_eq h 3
  obtain ⟨h1, h2, h3, h4, h5, h6, h7⟩ := h
  exact ⟨h1, h2, h3, e.1, h5, h6, fun i => ⟨(h7 i).1, (h7 i).2.1, (h7 i).2.2.1, e.2 i⟩⟩
/-- steps -/
def R_sp (z8 : Nat) (X M : XF) : Prop := X 8 = M 48 ∧ X 9 = M 49 ∧ X 10 = M 52 ∧ X 11 = M 50 ∧ X 12 = M 51 ∧ X 102 0 = nI z8 ∧ M 113 0 = nI z8 ∧ z8 ≤ 16 ∧ (∀ i, isCh (X 12 i)) ∧ (∀ i, i < z8 → 1 ≤ (X 9 i).toInt) ∧ (∀ i, i < z8 → X 12 i = 114 → 1 ≤ (X 10 i).toInt) ∧ ∀ i, bw z8 (X 11 i)
theorem wa_keep (l s : Nat → Int32) : ∀ i k, i ≤ k → (sp_wa l s i).1 k = l k ∧ (sp_wa l s i).2 k = s k
  | 0, _, _ => ⟨rfl, rfl⟩
  | i + 1, k, h => by
    have ih := wa_keep l s i k (by omega)
    unfold sp_wa
    split
    · show upd _ i _ k = _ ∧ upd _ i _ k = _
      rw [upd_at, upd_at, if_neg (by omega), if_neg (by omega)]
      exact ih
    · exact ih
theorem wa_eq (l s : Nat → Int32) (z : Nat) (h : ∀ k, k < z → s k = 114 → 1 ≤ (l k).toInt) : ∀ i, i ≤ z → sp_wa l s i = md_ga l s i
  | 0, _ => rfl
  | i + 1, hi => by
    have ih := wa_eq l s z h i (by omega)
    have kp := wa_keep l s i i (Nat.le_refl i)
    unfold sp_wa md_ga
    rw [← ih]
    by_cases h1 : (sp_wa l s i).2 i = 114
    · rw [if_pos h1, if_pos h1]
      have hl : 1 ≤ (l i).toInt := h i (by omega) (by rw [← kp.2]; exact h1)
      have e : ((sp_wa l s i).1 i - 1 ≤ 0) = ((sp_wa l s i).1 i - 1 = 0) := by
        rw [kp.1]
        obtain ⟨j, ej, hj, -⟩ := nI_of' (x := l i) (by omega)
        obtain ⟨m, rfl⟩ : ∃ m, j = m + 1 := ⟨j - 1, by rw [ej, nI_toInt hj] at hl; omega⟩
        rw [ej, nI_pred]
        apply propext
        rw [show (0 : Int32) = nI 0 from rfl, nI_leI (by omega) (by decide), nI_eq (by omega) (by decide)]
        omega
      simp only [e]
    · rw [if_neg h1, if_neg h1]
theorem wa_inv (l s : Nat → Int32) (hs : ∀ k, isCh (s k)) : ∀ i, (∀ k, isCh ((sp_wa l s i).2 k))
  | 0, k => hs k
  | i + 1, k => by
    have ih := wa_inv l s hs i
    unfold sp_wa
    split
    · show isCh (upd _ i _ k)
      rw [upd_at]
      split
      · split
        · exact ⟨by decide, by decide⟩
        · exact ⟨by decide, by decide⟩
      · exact ih k
    · exact ih k
theorem wa_run (l s : Nat → Int32) (z : Nat) (h : ∀ k, k < z → s k = 114 → 1 ≤ (l k).toInt) : ∀ i, i ≤ z → ∀ k, k < z → (sp_wa l s i).2 k = 114 → 1 ≤ ((sp_wa l s i).1 k).toInt
  | 0, _, k, hk, e => h k hk e
  | i + 1, hi, k, hk, e => by
    have ih := wa_run l s z h i (by omega) k hk
    have kp := wa_keep l s i i (Nat.le_refl i)
    by_cases h1 : (sp_wa l s i).2 i = 114
    · have ew : sp_wa l s (i + 1) = (upd (sp_wa l s i).1 i ((sp_wa l s i).1 i - 1), upd (sp_wa l s i).2 i (if (sp_wa l s i).1 i - 1 ≤ 0 then 101 else 114)) := by
        rw [sp_wa, if_pos h1]
      rw [ew] at e ⊢
      show 1 ≤ (upd _ i _ k).toInt
      change upd _ i _ k = 114 at e
      rw [upd_at] at e ⊢
      by_cases hk' : k = i
      · rw [if_pos hk'] at e ⊢
        have hl : 1 ≤ (l i).toInt := h i (by omega) (by rw [← kp.2]; exact h1)
        rw [kp.1] at e ⊢
        obtain ⟨j, ej, hj, -⟩ := nI_of' (x := l i) (by omega)
        obtain ⟨m, rfl⟩ : ∃ m, j = m + 1 := ⟨j - 1, by rw [ej, nI_toInt hj] at hl; omega⟩
        rw [ej, nI_pred] at e ⊢
        by_cases hz : nI m ≤ 0
        · rw [if_pos hz] at e; exact absurd e (by decide)
        · rw [nI_toInt (by omega)]
          have : m ≠ 0 := fun q => hz (by rw [q]; decide)
          omega
      · rw [if_neg hk'] at e ⊢
        exact ih e
    · have ew : sp_wa l s (i + 1) = sp_wa l s i := by rw [sp_wa, if_neg h1]
      rw [ew] at e ⊢
      exact ih e
theorem ad_cong {s s' : Nat → Int32} (p : Int32) {z : Nat} (hz : z ≤ 31) (h : ∀ k, s k = 101 ↔ s' k = 101) : (md_ad s p z = 0) = (md_ad s' p z = 0) := by
  have e : ¬ md_ad s p z = 0 ↔ ¬ md_ad s' p z = 0 := by
    rw [md_ad_iff s p z hz, md_ad_iff s' p z hz]
    exact ⟨fun q i h1 h2 => (h i).mp (q i h1 h2), fun q i h1 h2 => (h i).mpr (q i h1 h2)⟩
  apply propext
  by_cases a : md_ad s p z = 0 <;> by_cases b : md_ad s' p z = 0 <;> simp_all
theorem wb_done (dn c : Int32) (fr secs beh l s : Nat → Int32) : ∀ i k, (sp_wb dn c fr secs beh l s i).2 k = 101 ↔ s k = 101
  | 0, _ => Iff.rfl
  | i + 1, k => by
    have ih := wb_done dn c fr secs beh l s i k
    unfold sp_wb
    split
    · rename_i h45
      split
      · exact ih
      · split
        · show upd _ i 114 k = 101 ↔ _
          rw [upd_at]
          by_cases hk : k = i
          · rw [if_pos hk, ← ih, hk, h45]
            decide
          · rw [if_neg hk]; exact ih
        · exact ih
    · exact ih
theorem wb_eq {z : Nat} (hz : z ≤ 16) (c : Int32) (fr secs beh l s : Nat → Int32) (hb : ∀ i, bw z (beh i)) : ∀ i, sp_wb (sp_on s z) c fr secs beh l s i = md_gb z c fr secs beh l s i
  | 0 => rfl
  | i + 1 => by
    have ih := wb_eq hz c fr secs beh l s hb i
    have hd := wb_done (sp_on s z) c fr secs beh l s i
    unfold sp_wb md_gb
    rw [← ih]
    have e : (md_ad (sp_wb (sp_on s z) c fr secs beh l s i).2 (beh i) z = 0) = (md_ad s (beh i) z = 0) := ad_cong _ (by omega) hd
    have e2 := and_on (s := s) (p := beh i) (z := z) (by omega) (hb i)
    simp only [e]
    by_cases h1 : (sp_wb (sp_on s z) c fr secs beh l s i).2 i = 45
    · rw [if_pos h1, if_pos h1]
      by_cases h2 : c < fr i
      · rw [if_pos h2, if_pos h2]
      · rw [if_neg h2, if_neg h2]
        by_cases h3 : md_ad s (beh i) z = 0
        · rw [if_pos h3, if_neg (fun q => (e2.mp q) h3)]
        · rw [if_neg h3, if_pos (e2.mpr h3)]
    · rw [if_neg h1, if_neg h1]
theorem wb_inv (dn c : Int32) (fr secs beh l s : Nat → Int32) (hs : ∀ k, isCh (s k)) : ∀ i k, isCh ((sp_wb dn c fr secs beh l s i).2 k)
  | 0, k => hs k
  | i + 1, k => by
    have ih := wb_inv dn c fr secs beh l s hs i k
    unfold sp_wb
    repeat' split
    all_goals first | exact ih | (show isCh (upd _ i 114 k); rw [upd_at]; split; exact ⟨by decide, by decide⟩; exact ih)
theorem wb_run (dn c : Int32) (fr secs beh l s : Nat → Int32) (z : Nat) (hs : ∀ k, k < z → 1 ≤ (secs k).toInt) (h : ∀ k, k < z → s k = 114 → 1 ≤ (l k).toInt) : ∀ i, i ≤ z → ∀ k, k < z → (sp_wb dn c fr secs beh l s i).2 k = 114 → 1 ≤ ((sp_wb dn c fr secs beh l s i).1 k).toInt
  | 0, _, k, hk, e => h k hk e
  | i + 1, hi, k, hk, e => by
    have ih := wb_run dn c fr secs beh l s z hs h i (by omega) k hk
    unfold sp_wb at e ⊢
    split at e
    · rename_i h45
      rw [if_pos h45]
      split at e
      · rename_i hc
        rw [if_pos hc]; exact ih e
      · rename_i hc
        rw [if_neg hc]
        split at e
        · rename_i hd
          rw [if_pos hd]
          show 1 ≤ (upd _ i (secs i) k).toInt
          change upd _ i 114 k = 114 at e
          rw [upd_at] at e ⊢
          by_cases hk' : k = i
          · rw [if_pos hk']; exact hs i (by omega)
          · rw [if_neg hk'] at e ⊢; exact ih e
        · rename_i hd
          rw [if_neg hd]; exact ih e
    · rename_i h45
      rw [if_neg h45]; exact ih e
theorem R_sp.second {z8 : Nat} {X M : XF} (h : R_sp z8 X M) (hst : X 118 0 = M 102 0) (hat : X 106 0 = M 104 0) : R_sp z8 (sc_2 z8 X) (gp_2 z8 M) := by
  unfold sc_2 gp_2
  rw [← hst]
  by_cases hc : md_ic (X 118 0) = 0
  · rw [if_pos hc, if_pos hc]; exact h
  · rw [if_neg hc, if_neg hc]
    obtain ⟨h1, h2, h3, h4, h5, h6, h7, h8, h9, h10, h11, h12⟩ := h
    have ea := wa_eq (X 10) (X 12) z8 h11 z8 (Nat.le_refl _)
    have eb := wb_eq h8 (X 106 0) (X 8) (X 9) (X 11) (sp_wa (X 10) (X 12) z8).1 (sp_wa (X 10) (X 12) z8).2 h12 z8
    have ra := wa_run (X 10) (X 12) z8 h11 z8 (Nat.le_refl _)
    have ia := wa_inv (X 10) (X 12) h9 z8
    have em : md_gb z8 (M 104 0) (M 48) (M 49) (M 50) (md_ga (M 52) (M 51) z8).1 (md_ga (M 52) (M 51) z8).2 z8 = md_gb z8 (X 106 0) (X 8) (X 9) (X 11) (sp_wa (X 10) (X 12) z8).1 (sp_wa (X 10) (X 12) z8).2 z8 := by
      rw [ea, hat, h1, h2, h3, h4, h5]
    rw [em, ← eb]
    exact ⟨h1, h2, rfl, h4, rfl, h6, h7, h8, fun i => wb_inv _ _ _ _ _ _ _ ia z8 i, h10, fun i hi => wb_run _ _ _ _ _ _ _ z8 h10 (fun k hk => ra k hk) z8 (Nat.le_refl _) i hi, h12⟩
