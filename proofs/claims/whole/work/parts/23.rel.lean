/-! the parts, on both sides -/
theorem nI_of' {x : Int32} (h : 0 ≤ x.toInt) : ∃ j : Nat, x = nI j ∧ j < 2 ^ 31 ∧ x.toInt = j := by
  obtain ⟨j, hj, ej⟩ := nI_of (x := x) (fun q => by
    have := Int32.lt_iff_toInt_lt.mp q
    have z0 : (0 : Int32).toInt = 0 := rfl
    omega)
  exact ⟨j, ej, hj, by rw [ej, nI_toInt hj]⟩
theorem lN_div {a d : Nat} (ha : a < 2 ^ 31) (hd : d < 2 ^ 31) : lN a / lN d = lN (a / d) := by
  apply Int64.toInt_inj.mp
  have h1 : a / d < 2 ^ 31 := Nat.lt_of_le_of_lt (Nat.div_le_self a d) ha
  rw [Int64.toInt_div_of_ne_left (lN a) (lN d) (fun q => by have := congrArg Int64.toInt q; rw [lN_toInt ha] at this; have e : Int64.minValue.toInt = -9223372036854775808 := rfl; omega), lN_toInt ha, lN_toInt hd, lN_toInt h1]
  rfl
/-- what boils away -/
theorem boil_eq {a b : Int32} (ha : 0 ≤ a.toInt ∧ a.toInt ≤ 100000) (hb : 0 ≤ b.toInt ∧ b.toInt ≤ 100) : ∃ m k : Nat, a = nI m ∧ b = nI k ∧ m ≤ 100000 ∧ k ≤ 100 ∧ a * b / 1000 = nI (m * k / 1000) ∧ (a.toInt64 * b.toInt64 / 1000).toInt32 = nI (m * k / 1000) := by
  obtain ⟨m, em, hm, em'⟩ := nI_of' ha.1
  obtain ⟨k, ek, hk, ek'⟩ := nI_of' hb.1
  have hmk : m * k ≤ 100000 * 100 := Nat.mul_le_mul (by omega) (by omega)
  refine ⟨m, k, em, ek, by omega, by omega, ?_, ?_⟩
  · rw [em, ek, pk_mul]
    exact pk_div (d := 1000) (by omega) (by decide) (by decide)
  · rw [em, ek, nI_l hm, nI_l hk, lN_mul, show (1000 : Int64) = lN 1000 from rfl, lN_div (by omega) (by decide), lN_i]
theorem tk_min_int (x y : Int32) : (tk_min x y).toInt = min x.toInt y.toInt := by
  unfold tk_min
  have := @Int32.lt_iff_toInt_lt y x
  by_cases h : y < x
  · rw [if_pos h]; have := this.mp h; omega
  · rw [if_neg h]
    have : ¬ y.toInt < x.toInt := fun q => h (this.mpr q)
    omega
def R_tk (X M : XF) : Prop := X 2 = M 43 ∧ X 3 = M 44 ∧ X 4 = M 45 ∧ X 5 = M 46 ∧ X 6 = M 47 ∧ (∀ i, isBo (X 6 i)) ∧ ∀ i, (0 ≤ (X 2 i).toInt ∧ (X 2 i).toInt ≤ 100000) ∧ (0 ≤ (X 3 i).toInt ∧ (X 3 i).toInt ≤ 1000) ∧ (0 ≤ (X 4 i).toInt ∧ (X 4 i).toInt ≤ 100) ∧ 0 ≤ (X 5 i).toInt ∧ (X 5 i).toInt ≤ (X 2 i).toInt
theorem upd_at (f : Nat → Int32) (i j : Nat) (x : Int32) : upd f i x j = if j = i then x else f j := rfl
theorem tk1_eq {a b o rm rt : Int32} (ha : 0 ≤ a.toInt ∧ a.toInt ≤ 100000) (hb : 0 ≤ b.toInt ∧ b.toInt ≤ 100) (hr : 0 ≤ rm.toInt ∧ rm.toInt ≤ 100000) (hrt : 0 ≤ rt.toInt ∧ rt.toInt ≤ 1000) (hle : a.toInt ≤ rm.toInt) :
    (if o = 0 then a - a * b / 1000 else tk_min rm (a - a * b / 1000 + rt)) = md_tk1 a b o rm rt ∧ 0 ≤ (md_tk1 a b o rm rt).toInt ∧ (md_tk1 a b o rm rt).toInt ≤ rm.toInt := by
  obtain ⟨m, k, em, ek, hm, hk, e1, e2⟩ := boil_eq ha hb
  have hmk : m * k / 1000 ≤ m := by
    have : m * k ≤ m * 1000 := Nat.mul_le_mul_left m (by omega)
    omega
  obtain ⟨w, ew, hw, ew'⟩ := nI_of' hrt.1
  have em' : a.toInt = m := by rw [em, nI_toInt (by omega)]
  unfold md_tk1
  rw [e1, e2]
  refine ⟨rfl, ?_⟩
  rw [em, pk_sub hmk, ew, nI_add]
  by_cases ho : o = 0
  · rw [if_pos ho, nI_toInt (by omega)]
    omega
  · rw [if_neg ho, tk_min_int, nI_toInt (by omega)]
    omega
theorem tk_fill_eq {X M : XF} (h : R_tk X M) : ∀ n, tk_fill (X 2) (X 3) (X 4) (X 6) (X 5) n = md_tk (M 43) (M 44) (M 45) (M 47) (M 46) n ∧ ∀ i, 0 ≤ (tk_fill (X 2) (X 3) (X 4) (X 6) (X 5) n i).toInt ∧ (tk_fill (X 2) (X 3) (X 4) (X 6) (X 5) n i).toInt ≤ (X 2 i).toInt
  | 0 => ⟨h.2.2.2.1, fun i => (h.2.2.2.2.2.2 i).2.2.2⟩
  | n + 1 => by
    obtain ⟨ih1, ih2⟩ := tk_fill_eq h n
    obtain ⟨h1, h2, h3, h4, h5, h6, h7⟩ := h
    have b := h7 n
    have q := ih2 n
    have e := tk1_eq (a := tk_fill (X 2) (X 3) (X 4) (X 6) (X 5) n n) (b := X 4 n) (o := X 6 n) (rm := X 2 n) (rt := X 3 n) ⟨q.1, by omega⟩ b.2.2.1 b.1 b.2.1 q.2
    have st : tk_fill (X 2) (X 3) (X 4) (X 6) (X 5) (n + 1) = upd (tk_fill (X 2) (X 3) (X 4) (X 6) (X 5) n) n (md_tk1 (tk_fill (X 2) (X 3) (X 4) (X 6) (X 5) n n) (X 4 n) (X 6 n) (X 2 n) (X 3 n)) := by
      show tk_step _ _ _ _ n _ = _
      rw [← e.1]
      unfold tk_step
      by_cases ho : X 6 n = 0
      · rw [if_pos ho, if_pos ho]
      · rw [if_neg ho, if_neg ho, up_up]
    constructor
    · rw [st]
      show _ = upd (md_tk (M 43) (M 44) (M 45) (M 47) (M 46) n) n (md_tk1 (md_tk (M 43) (M 44) (M 45) (M 47) (M 46) n n) (M 45 n) (M 47 n) (M 43 n) (M 44 n))
      rw [← ih1, h1, h2, h3, h5]
    · intro i
      rw [st, upd_at]
      by_cases hi : i = n
      · rw [if_pos hi, hi]; exact e.2
      · rw [if_neg hi]; exact ih2 i
theorem R_tk.second {X M : XF} (h : R_tk X M) : R_tk (sc_1 X) (gp_1 M) := by
  have e := tk_fill_eq h 3
  obtain ⟨h1, h2, h3, h4, h5, h6, h7⟩ := h
  exact ⟨h1, h2, h3, e.1, h5, h6, fun i => ⟨(h7 i).1, (h7 i).2.1, (h7 i).2.2.1, e.2 i⟩⟩
/-- steps -/
def R_sp (z8 : Nat) (X M : XF) : Prop := X 8 = M 48 ∧ X 9 = M 49 ∧ X 10 = M 52 ∧ X 11 = M 50 ∧ X 12 = M 51 ∧ X 102 0 = nI z8 ∧ M 113 0 = nI z8 ∧ z8 ≤ 16 ∧ (∀ i, isCh (X 12 i)) ∧ (∀ i, i < z8 → 1 ≤ (X 9 i).toInt) ∧ (∀ i, i < z8 → X 12 i = 114 → 1 ≤ (X 10 i).toInt) ∧ ∀ i, bw z8 (X 11 i)
theorem wa_keep (l s : Nat → Int32) : ∀ i k, i ≤ k → (sp_wa l s i).1 k = l k ∧ (sp_wa l s i).2 k = s k
  | 0, _, _ => ⟨rfl, rfl⟩
  | i + 1, k, h => by
    have ih := wa_keep l s i k (by omega)
    unfold sp_wa
    split
    · show upd _ i _ k = _ ∧ upd _ i _ k = _
      rw [upd_at, upd_at, if_neg (by omega), if_neg (by omega)]
      exact ih
    · exact ih
theorem wa_eq (l s : Nat → Int32) (z : Nat) (h : ∀ k, k < z → s k = 114 → 1 ≤ (l k).toInt) : ∀ i, i ≤ z → sp_wa l s i = md_ga l s i
  | 0, _ => rfl
  | i + 1, hi => by
    have ih := wa_eq l s z h i (by omega)
    have kp := wa_keep l s i i (Nat.le_refl i)
    unfold sp_wa md_ga
    rw [← ih]
    by_cases h1 : (sp_wa l s i).2 i = 114
    · rw [if_pos h1, if_pos h1]
      have hl : 1 ≤ (l i).toInt := h i (by omega) (by rw [← kp.2]; exact h1)
      have e : ((sp_wa l s i).1 i - 1 ≤ 0) = ((sp_wa l s i).1 i - 1 = 0) := by
        rw [kp.1]
        obtain ⟨j, ej, hj, -⟩ := nI_of' (x := l i) (by omega)
        obtain ⟨m, rfl⟩ : ∃ m, j = m + 1 := ⟨j - 1, by rw [ej, nI_toInt hj] at hl; omega⟩
        rw [ej, nI_pred]
        apply propext
        rw [show (0 : Int32) = nI 0 from rfl, nI_leI (by omega) (by decide), nI_eq (by omega) (by decide)]
        omega
      simp only [e]
    · rw [if_neg h1, if_neg h1]
theorem wa_inv (l s : Nat → Int32) (hs : ∀ k, isCh (s k)) : ∀ i, (∀ k, isCh ((sp_wa l s i).2 k))
  | 0, k => hs k
  | i + 1, k => by
    have ih := wa_inv l s hs i
    unfold sp_wa
    split
    · show isCh (upd _ i _ k)
      rw [upd_at]
      split
      · split
        · exact ⟨by decide, by decide⟩
        · exact ⟨by decide, by decide⟩
      · exact ih k
    · exact ih k
theorem wa_run (l s : Nat → Int32) (z : Nat) (h : ∀ k, k < z → s k = 114 → 1 ≤ (l k).toInt) : ∀ i, i ≤ z → ∀ k, k < z → (sp_wa l s i).2 k = 114 → 1 ≤ ((sp_wa l s i).1 k).toInt
  | 0, _, k, hk, e => h k hk e
  | i + 1, hi, k, hk, e => by
    have ih := wa_run l s z h i (by omega) k hk
    have kp := wa_keep l s i i (Nat.le_refl i)
    by_cases h1 : (sp_wa l s i).2 i = 114
    · have ew : sp_wa l s (i + 1) = (upd (sp_wa l s i).1 i ((sp_wa l s i).1 i - 1), upd (sp_wa l s i).2 i (if (sp_wa l s i).1 i - 1 ≤ 0 then 101 else 114)) := by
        rw [sp_wa, if_pos h1]
      rw [ew] at e ⊢
      show 1 ≤ (upd _ i _ k).toInt
      change upd _ i _ k = 114 at e
      rw [upd_at] at e ⊢
      by_cases hk' : k = i
      · rw [if_pos hk'] at e ⊢
        have hl : 1 ≤ (l i).toInt := h i (by omega) (by rw [← kp.2]; exact h1)
        rw [kp.1] at e ⊢
        obtain ⟨j, ej, hj, -⟩ := nI_of' (x := l i) (by omega)
        obtain ⟨m, rfl⟩ : ∃ m, j = m + 1 := ⟨j - 1, by rw [ej, nI_toInt hj] at hl; omega⟩
        rw [ej, nI_pred] at e ⊢
        by_cases hz : nI m ≤ 0
        · rw [if_pos hz] at e; exact absurd e (by decide)
        · rw [nI_toInt (by omega)]
          have : m ≠ 0 := fun q => hz (by rw [q]; decide)
          omega
      · rw [if_neg hk'] at e ⊢
        exact ih e
    · have ew : sp_wa l s (i + 1) = sp_wa l s i := by rw [sp_wa, if_neg h1]
      rw [ew] at e ⊢
      exact ih e
theorem ad_cong {s s' : Nat → Int32} (p : Int32) {z : Nat} (hz : z ≤ 31) (h : ∀ k, s k = 101 ↔ s' k = 101) : (md_ad s p z = 0) = (md_ad s' p z = 0) := by
  have e : ¬ md_ad s p z = 0 ↔ ¬ md_ad s' p z = 0 := by
    rw [md_ad_iff s p z hz, md_ad_iff s' p z hz]
    exact ⟨fun q i h1 h2 => (h i).mp (q i h1 h2), fun q i h1 h2 => (h i).mpr (q i h1 h2)⟩
  apply propext
  by_cases a : md_ad s p z = 0 <;> by_cases b : md_ad s' p z = 0 <;> simp_all
theorem wb_done (dn c : Int32) (fr secs beh l s : Nat → Int32) : ∀ i k, (sp_wb dn c fr secs beh l s i).2 k = 101 ↔ s k = 101
  | 0, _ => Iff.rfl
  | i + 1, k => by
    have ih := wb_done dn c fr secs beh l s i k
    unfold sp_wb
    split
    · rename_i h45
      split
      · exact ih
      · split
        · show upd _ i 114 k = 101 ↔ _
          rw [upd_at]
          by_cases hk : k = i
          · rw [if_pos hk, ← ih, hk, h45]
            decide
          · rw [if_neg hk]; exact ih
        · exact ih
    · exact ih
theorem wb_eq {z : Nat} (hz : z ≤ 16) (c : Int32) (fr secs beh l s : Nat → Int32) (hb : ∀ i, bw z (beh i)) : ∀ i, sp_wb (sp_on s z) c fr secs beh l s i = md_gb z c fr secs beh l s i
  | 0 => rfl
  | i + 1 => by
    have ih := wb_eq hz c fr secs beh l s hb i
    have hd := wb_done (sp_on s z) c fr secs beh l s i
    unfold sp_wb md_gb
    rw [← ih]
    have e : (md_ad (sp_wb (sp_on s z) c fr secs beh l s i).2 (beh i) z = 0) = (md_ad s (beh i) z = 0) := ad_cong _ (by omega) hd
    have e2 := and_on (s := s) (p := beh i) (z := z) (by omega) (hb i)
    simp only [e]
    by_cases h1 : (sp_wb (sp_on s z) c fr secs beh l s i).2 i = 45
    · rw [if_pos h1, if_pos h1]
      by_cases h2 : c < fr i
      · rw [if_pos h2, if_pos h2]
      · rw [if_neg h2, if_neg h2]
        by_cases h3 : md_ad s (beh i) z = 0
        · rw [if_pos h3, if_neg (fun q => (e2.mp q) h3)]
        · rw [if_neg h3, if_pos (e2.mpr h3)]
    · rw [if_neg h1, if_neg h1]
theorem wb_inv (dn c : Int32) (fr secs beh l s : Nat → Int32) (hs : ∀ k, isCh (s k)) : ∀ i k, isCh ((sp_wb dn c fr secs beh l s i).2 k)
  | 0, k => hs k
  | i + 1, k => by
    have ih := wb_inv dn c fr secs beh l s hs i k
    unfold sp_wb
    repeat' split
    all_goals first | exact ih | (show isCh (upd _ i 114 k); rw [upd_at]; split; exact ⟨by decide, by decide⟩; exact ih)
theorem wb_run (dn c : Int32) (fr secs beh l s : Nat → Int32) (z : Nat) (hs : ∀ k, k < z → 1 ≤ (secs k).toInt) (h : ∀ k, k < z → s k = 114 → 1 ≤ (l k).toInt) : ∀ i, i ≤ z → ∀ k, k < z → (sp_wb dn c fr secs beh l s i).2 k = 114 → 1 ≤ ((sp_wb dn c fr secs beh l s i).1 k).toInt
  | 0, _, k, hk, e => h k hk e
  | i + 1, hi, k, hk, e => by
    have ih := wb_run dn c fr secs beh l s z hs h i (by omega) k hk
    unfold sp_wb at e ⊢
    split at e
    · rename_i h45
      rw [if_pos h45]
      split at e
      · rename_i hc
        rw [if_pos hc]; exact ih e
      · rename_i hc
        rw [if_neg hc]
        split at e
        · rename_i hd
          rw [if_pos hd]
          show 1 ≤ (upd _ i (secs i) k).toInt
          change upd _ i 114 k = 114 at e
          rw [upd_at] at e ⊢
          by_cases hk' : k = i
          · rw [if_pos hk']; exact hs i (by omega)
          · rw [if_neg hk'] at e ⊢; exact ih e
        · rename_i hd
          rw [if_neg hd]; exact ih e
    · rename_i h45
      rw [if_neg h45]; exact ih e
theorem R_sp.second {z8 : Nat} {X M : XF} (h : R_sp z8 X M) (hst : X 118 0 = M 102 0) (hat : X 106 0 = M 104 0) : R_sp z8 (sc_2 z8 X) (gp_2 z8 M) := by
  unfold sc_2 gp_2
  rw [← hst]
  by_cases hc : md_ic (X 118 0) = 0
  · rw [if_pos hc, if_pos hc]; exact h
  · rw [if_neg hc, if_neg hc]
    obtain ⟨h1, h2, h3, h4, h5, h6, h7, h8, h9, h10, h11, h12⟩ := h
    have ea := wa_eq (X 10) (X 12) z8 h11 z8 (Nat.le_refl _)
    have eb := wb_eq h8 (X 106 0) (X 8) (X 9) (X 11) (sp_wa (X 10) (X 12) z8).1 (sp_wa (X 10) (X 12) z8).2 h12 z8
    have ra := wa_run (X 10) (X 12) z8 h11 z8 (Nat.le_refl _)
    have ia := wa_inv (X 10) (X 12) h9 z8
    have em : md_gb z8 (M 104 0) (M 48) (M 49) (M 50) (md_ga (M 52) (M 51) z8).1 (md_ga (M 52) (M 51) z8).2 z8 = md_gb z8 (X 106 0) (X 8) (X 9) (X 11) (sp_wa (X 10) (X 12) z8).1 (sp_wa (X 10) (X 12) z8).2 z8 := by
      rw [ea, hat, h1, h2, h3, h4, h5]
    rw [em, ← eb]
    exact ⟨h1, h2, rfl, h4, rfl, h6, h7, h8, fun i => wb_inv _ _ _ _ _ _ _ ia z8 i, h10, fun i hi => wb_run _ _ _ _ _ _ _ z8 h10 (fun k hk => ra k hk) z8 (Nat.le_refl _) i hi, h12⟩
/-! marks -/
def R_mk (z5 z8 : Nat) (X M : XF) : Prop := X 14 = M 53 ∧ X 15 = M 54 ∧ X 16 = M 55 ∧ X 103 0 = nI z5 ∧ M 114 0 = nI z5 ∧ z5 ≤ 6 ∧ (∀ i j, i < j → j < z5 → ¬ X 14 i = X 14 j) ∧ (∀ i, bw z8 (X 16 i)) ∧ ∀ i, i < z5 → -600 ≤ (X 14 i).toInt
theorem find_none (f : Nat → Int32) (v : Int32) : ∀ n i, (∀ j, i ≤ j → j < i + n → ¬ f j = v) → mk_find f v n i = -1
  | 0, _, _ => rfl
  | n + 1, i, h => by
    unfold mk_find
    rw [if_neg (h i (Nat.le_refl i) (by omega))]
    exact find_none f v n (i + 1) (fun j h1 h2 => h j (by omega) (by omega))
theorem find_hit (f : Nat → Int32) (v : Int32) {j : Nat} (hj : f j = v) : ∀ n i, i ≤ j → j < i + n → (∀ k, i ≤ k → k < j → ¬ f k = v) → mk_find f v n i = nI j
  | 0, i, h1, h2, _ => by omega
  | n + 1, i, h1, h2, h => by
    unfold mk_find
    by_cases e : i = j
    · rw [e, if_pos hj]
    · rw [if_neg (h i (Nat.le_refl i) (by omega))]
      exact find_hit f v hj n (i + 1) (by omega) (by omega) (fun k k1 k2 => h k (by omega) k2)
theorem at_none (f : Nat → Int32) (v : Int32) : ∀ n, (∀ j, j < n → ¬ f j = v) → md_at f v n = -1
  | 0, _ => rfl
  | n + 1, h => by
    unfold md_at
    rw [if_neg (h n (by omega))]
    exact at_none f v n (fun j hj => h j (by omega))
theorem at_hit (f : Nat → Int32) (v : Int32) {j : Nat} (hj : f j = v) : ∀ n, j < n → (∀ k, j < k → k < n → ¬ f k = v) → md_at f v n = nI j
  | 0, h, _ => by omega
  | n + 1, h1, h => by
    unfold md_at
    by_cases e : n = j
    · rw [e, if_pos hj]
    · rw [if_neg (h n (by omega) (by omega))]
      exact at_hit f v hj n (by omega) (fun k k1 k2 => h k k1 (by omega))
theorem find_at {f : Nat → Int32} {z : Nat} (hd : ∀ i j, i < j → j < z → ¬ f i = f j) (v : Int32) : mk_find f v z 0 = md_at f v z := by
  by_cases h : ∃ j, j < z ∧ f j = v
  · obtain ⟨j, hj, e⟩ := h
    rw [find_hit f v e z 0 (by omega) (by omega) (fun k _ hk q => hd k j hk hj (by rw [q, e])), at_hit f v e z hj (fun k hk hz q => hd j k hk hz (by rw [q, e]))]
  · rw [find_none f v z 0 (fun j _ hj q => h ⟨j, by omega, q⟩), at_none f v z (fun j hj q => h ⟨j, hj, q⟩)]
theorem lt_nle {a b : Int32} : a < b ↔ ¬ b ≤ a := by
  rw [Int32.lt_iff_toInt_lt, Int32.le_iff_toInt_le]
  omega
theorem kp_gw {z5 z8 : Nat} {X M : XF} (h : R_mk z5 z8 X M) (hs : X 12 = M 51) (h8 : z8 ≤ 16) (hat : X 106 0 = M 104 0) (hst : X 110 0 = M 106 0) : (kp_A z5 z8 X = 0) = (gw_m M z5 z8 = 0) := by
  obtain ⟨h1, h2, h3, h4, h5, h6, h7, h9⟩ := h
  unfold kp_A mk_keep gw_m
  rw [find_at h7, h1, h2, h3, hat, hst, ← hs]
  by_cases ha : md_at (M 53) (M 104 0) z5 = -1
  · rw [if_pos ha, if_pos ha]
  · rw [if_neg ha, if_neg ha]
    have e := ad_eq (s := X 12) (p := M 55 (md_at (M 53) (M 104 0) z5).toNatClampNeg) (z := z8) (by omega) (by rw [← h3]; exact h9.1 _)
    rw [e]
    apply propext
    by_cases hb : md_ad (X 12) (M 55 (md_at (M 53) (M 104 0) z5).toNatClampNeg) z8 = 0
    · rw [if_pos hb, if_pos hb]
      by_cases hc : M 106 0 < M 54 (md_at (M 53) (M 104 0) z5).toNatClampNeg
      · rw [if_pos hc]
      · rw [if_neg hc]
    · rw [if_neg hb, if_neg hb]
      by_cases hc : M 106 0 < M 54 (md_at (M 53) (M 104 0) z5).toNatClampNeg
      · rw [if_pos hc, if_neg (lt_nle.mp hc)]
      · rw [if_neg hc]
        by_cases hd : M 54 (md_at (M 53) (M 104 0) z5).toNatClampNeg ≤ M 106 0
        · rw [if_pos hd]
        · exact absurd (lt_nle.mpr hd) hc
theorem mk_sh_spec (v : Int32) : ∀ k c s t, (mk_sh v k c s t).2 ≤ k ∧ (∀ j, j < (mk_sh v k c s t).2 → (mk_sh v k c s t).1.1 j = c j) ∧ (∀ j, (mk_sh v k c s t).2 < j → j ≤ k → (mk_sh v k c s t).1.1 j = c (j - 1)) ∧ (∀ j, k < j → (mk_sh v k c s t).1.1 j = c j) ∧ ∀ j, ∃ j', (mk_sh v k c s t).1.2.2 j = t j'
  | 0, c, s, t => ⟨Nat.le_refl 0, fun j _ => rfl, fun j h1 h2 => by change 0 < j at h1; omega, fun j _ => rfl, fun j => ⟨j, rfl⟩⟩
  | k + 1, c, s, t => by
    by_cases h : c k ≤ v
    · have e : mk_sh v (k + 1) c s t = ((c, s, t), k + 1) := by rw [mk_sh, if_pos h]
      rw [e]
      exact ⟨Nat.le_refl _, fun j _ => rfl, fun j h1 h2 => by change k + 1 < j at h1; omega, fun j _ => rfl, fun j => ⟨j, rfl⟩⟩
    · have e : mk_sh v (k + 1) c s t = mk_sh v k (upd c (k + 1) (c k)) (upd s (k + 1) (s k)) (upd t (k + 1) (t k)) := by rw [mk_sh, if_neg h]
      obtain ⟨a1, a2, a3, a4, a5⟩ := mk_sh_spec v k (upd c (k + 1) (c k)) (upd s (k + 1) (s k)) (upd t (k + 1) (t k))
      rw [e]
      refine ⟨by omega, fun j hj => ?_, fun j h1 h2 => ?_, fun j hj => ?_, fun j => ?_⟩
      · rw [a2 j hj, upd_at, if_neg (by omega)]
      · by_cases hk : j ≤ k
        · rw [a3 j h1 hk, upd_at, if_neg (by omega)]
        · obtain rfl : j = k + 1 := by omega
          rw [a4 _ (by omega), upd_at, if_pos rfl]
          rfl
      · rw [a4 j (by omega), upd_at, if_neg (by omega)]
      · obtain ⟨j', hj'⟩ := a5 j
        rw [hj', upd_at]
        by_cases hq : j' = k + 1
        · rw [if_pos hq]; exact ⟨k, rfl⟩
        · rw [if_neg hq]; exact ⟨j', rfl⟩
theorem mk_ins {z : Nat} {c s t : Nat → Int32} {v : Int32} (hd : ∀ i j, i < j → j < z → ¬ c i = c j) (hn : ∀ j, j < z → ¬ c j = v) : ∀ i j, i < j → j < z + 1 → ¬ upd (mk_sh v z c s t).1.1 (mk_sh v z c s t).2 v i = upd (mk_sh v z c s t).1.1 (mk_sh v z c s t).2 v j := by
  obtain ⟨a1, a2, a3, a4, a5⟩ := mk_sh_spec v z c s t
  have val : ∀ j, j < z + 1 → j ≠ (mk_sh v z c s t).2 → ∃ q, q < z ∧ (mk_sh v z c s t).1.1 j = c q ∧ (j < (mk_sh v z c s t).2 → q = j) ∧ ((mk_sh v z c s t).2 < j → q + 1 = j) := fun j hj hne => by
    by_cases hl : j < (mk_sh v z c s t).2
    · exact ⟨j, by omega, a2 j hl, fun _ => rfl, fun q => by omega⟩
    · exact ⟨j - 1, by omega, a3 j (by omega) (by omega), fun q => by omega, fun _ => by omega⟩
  intro i j hij hj
  rw [upd_at, upd_at]
  by_cases hi' : i = (mk_sh v z c s t).2
  · rw [if_pos hi', if_neg (by omega)]
    obtain ⟨q, hq, e, -, -⟩ := val j hj (by omega)
    rw [e]
    exact fun w => hn q hq w.symm
  · rw [if_neg hi']
    obtain ⟨q, hq, e, e1, e2⟩ := val i (by omega) hi'
    rw [e]
    by_cases hj' : j = (mk_sh v z c s t).2
    · rw [if_pos hj']; exact hn q hq
    · rw [if_neg hj']
      obtain ⟨r, hr, f, f1, f2⟩ := val j hj hj'
      rw [f]
      refine hd q r ?_ hr
      by_cases c1 : i < (mk_sh v z c s t).2
      · have := e1 c1
        by_cases c2 : j < (mk_sh v z c s t).2
        · have := f1 c2; omega
        · have := f2 (by omega); omega
      · have := e2 (by omega)
        have := f2 (by omega)
        omega
/-! measures -/
def R_sn (X M : XF) : Prop := X 18 = M 56 ∧ X 19 = M 57 ∧ (∀ i, -9999 ≤ (X 18 i).toInt ∧ (X 18 i).toInt ≤ 9999) ∧ (∀ i, isBo (X 19 i)) ∧ ∀ k, k < 3 → ¬ sn_cnt (X 19) k 3 = 0
theorem tk_max_int (x y : Int32) : (tk_max x y).toInt = max x.toInt y.toInt := by
  unfold tk_max
  have := @Int32.lt_iff_toInt_lt x y
  by_cases h : x < y
  · rw [if_pos h]; have := this.mp h; omega
  · rw [if_neg h]
    have : ¬ x.toInt < y.toInt := fun q => h (this.mpr q)
    omega
theorem cnt_val (o : Nat → Int32) (k : Nat) : sn_cnt o k 3 = (if o (3 * k) = 0 then 1 else 0) + (if o (3 * k + 1) = 0 then 1 else 0) + (if o (3 * k + 2) = 0 then 1 else 0) := by
  show ((0 + _) + _) + _ = _
  rw [Int32.zero_add]
  rfl
theorem tog_eq {o t : Nat → Int32} {k : Nat} (hb : ∀ i, -9999 ≤ (t i).toInt ∧ (t i).toInt ≤ 9999) (h0 : ¬ sn_cnt o k 3 = 0) : sn_tell o t k = md_tog o t k := by
  unfold sn_tell md_tog
  have hc := cnt_val o k
  by_cases h3 : sn_cnt o k 3 = 3
  · rw [if_pos h3, if_pos h3]
    have a0 : o (3 * k + 0) = 0 := by
      rw [hc] at h3
      by_cases q : o (3 * k) = 0
      · exact q
      · rw [if_neg q] at h3
        repeat' split at h3
        all_goals exact absurd h3 (by decide)
    have e1 : sn_lo o t k 9999 3 = sn_lo o t k 10000 3 := by
      show (if o (3 * k + 2) = 0 then tk_min (if o (3 * k + 1) = 0 then tk_min (if o (3 * k + 0) = 0 then tk_min 9999 (t (3 * k + 0)) else 9999) _ else (if o (3 * k + 0) = 0 then tk_min 9999 (t (3 * k + 0)) else 9999)) _ else (if o (3 * k + 1) = 0 then tk_min (if o (3 * k + 0) = 0 then tk_min 9999 (t (3 * k + 0)) else 9999) _ else (if o (3 * k + 0) = 0 then tk_min 9999 (t (3 * k + 0)) else 9999))) = (if o (3 * k + 2) = 0 then tk_min (if o (3 * k + 1) = 0 then tk_min (if o (3 * k + 0) = 0 then tk_min 10000 (t (3 * k + 0)) else 10000) _ else (if o (3 * k + 0) = 0 then tk_min 10000 (t (3 * k + 0)) else 10000)) _ else (if o (3 * k + 1) = 0 then tk_min (if o (3 * k + 0) = 0 then tk_min 10000 (t (3 * k + 0)) else 10000) _ else (if o (3 * k + 0) = 0 then tk_min 10000 (t (3 * k + 0)) else 10000)))
      have e : tk_min 9999 (t (3 * k + 0)) = tk_min 10000 (t (3 * k + 0)) := by
        apply Int32.toInt_inj.mp
        rw [tk_min_int, tk_min_int]
        have := hb (3 * k + 0)
        have z1 : (9999 : Int32).toInt = 9999 := rfl
        have z2 : (10000 : Int32).toInt = 10000 := rfl
        omega
      rw [if_pos a0, if_pos a0, e]
    have e2 : sn_hi o t k (-9999) 3 = sn_hi o t k (-10000) 3 := by
      show (if o (3 * k + 2) = 0 then tk_max (if o (3 * k + 1) = 0 then tk_max (if o (3 * k + 0) = 0 then tk_max (-9999) (t (3 * k + 0)) else (-9999)) _ else (if o (3 * k + 0) = 0 then tk_max (-9999) (t (3 * k + 0)) else (-9999))) _ else (if o (3 * k + 1) = 0 then tk_max (if o (3 * k + 0) = 0 then tk_max (-9999) (t (3 * k + 0)) else (-9999)) _ else (if o (3 * k + 0) = 0 then tk_max (-9999) (t (3 * k + 0)) else (-9999)))) = (if o (3 * k + 2) = 0 then tk_max (if o (3 * k + 1) = 0 then tk_max (if o (3 * k + 0) = 0 then tk_max (-10000) (t (3 * k + 0)) else (-10000)) _ else (if o (3 * k + 0) = 0 then tk_max (-10000) (t (3 * k + 0)) else (-10000))) _ else (if o (3 * k + 1) = 0 then tk_max (if o (3 * k + 0) = 0 then tk_max (-10000) (t (3 * k + 0)) else (-10000)) _ else (if o (3 * k + 0) = 0 then tk_max (-10000) (t (3 * k + 0)) else (-10000))))
      have e : tk_max (-9999) (t (3 * k + 0)) = tk_max (-10000) (t (3 * k + 0)) := by
        apply Int32.toInt_inj.mp
        rw [tk_max_int, tk_max_int]
        have := hb (3 * k + 0)
        have z1 : (-9999 : Int32).toInt = -9999 := rfl
        have z2 : (-10000 : Int32).toInt = -10000 := rfl
        omega
      rw [if_pos a0, if_pos a0, e]
    rw [e1, e2]
  · rw [if_neg h3, if_neg h3]
    by_cases h2 : sn_cnt o k 3 = 2
    · rw [if_pos h2, h2]
    · rw [if_neg h2]
      have h1 : sn_cnt o k 3 = 1 := by
        rw [hc] at h3 h2 h0 ⊢
        revert h3 h2 h0
        repeat' split
        all_goals decide
      rw [h1]
      exact (Int32.div_one).symm
/-! boats -/
def R_bt (X M : XF) : Prop := ∀ i, X 23 i = bt_risk (M 59 i) (M 60 i)
theorem bt_cong {f g : Nat → Int32} (h : ∀ i, f i = g i) : ∀ n, bt_sum f n = bt_sum g n
  | 0 => rfl
  | n + 1 => by
    show bt_sum f n + f n = bt_sum g n + g n
    rw [bt_cong h n, h n]
theorem risk_eq {X M : XF} (h : R_bt X M) : bt_sum (X 23) 8 = md_risk (M 59) (M 60) := bt_cong h 8
/-! lightnings -/
def nr (p : Nat → Bool) : Nat → Nat
  | 0 => 0
  | i + 1 => nr p i + (if p i then 1 else 0)
theorem nr_le (p : Nat → Bool) : ∀ n, nr p n ≤ n
  | 0 => Nat.le_refl 0
  | n + 1 => by
    have := nr_le p n
    show nr p n + _ ≤ _
    split <;> omega
theorem nr_cong {p q : Nat → Bool} : ∀ {n}, (∀ i, i < n → p i = q i) → nr p n = nr q n
  | 0, _ => rfl
  | n + 1, h => by
    show nr p n + _ = nr q n + _
    rw [nr_cong (fun i hi => h i (by omega)), h n (by omega)]
theorem nr_add {p q r : Nat → Bool} : ∀ {n}, (∀ i, i < n → (if p i then 1 else 0) = (if q i then 1 else 0) + (if r i then 1 else 0)) → nr p n = nr q n + nr r n
  | 0, _ => rfl
  | n + 1, h => by
    show nr p n + _ = (nr q n + _) + (nr r n + _)
    rw [nr_add (p := p) (q := q) (r := r) (fun i hi => h i (by omega)), h n (by omega)]
    omega
theorem nr_none {p : Nat → Bool} : ∀ {n}, (∀ i, i < n → p i = false) → nr p n = 0
  | 0, _ => rfl
  | n + 1, h => by
    show nr p n + _ = 0
    rw [nr_none (fun i hi => h i (by omega)), h n (by omega)]
    rfl
def R_li (v zs : Nat) (X M : XF) : Prop := M 116 0 = nI zs ∧ ∃ g : Nat → Nat, (∀ i, i < zs → M 58 i = nI (g i) ∧ g i ≤ v) ∧ X 104 0 = nI (nr (fun i => decide (v < g i + 600)) zs) ∧ ∀ k, k < 600 → X 21 k = nI (nr (fun i => decide (g i % 600 = k ∧ v < g i + 600)) zs)
theorem near_nr {f : Nat → Int32} {v : Nat} {g : Nat → Nat} (hv : v ≤ 200000) : ∀ n, (∀ i, i < n → f i = nI (g i) ∧ g i ≤ v) → md_near f (nI v) n = nI (nr (fun i => decide (v < g i + 600)) n)
  | 0, _ => rfl
  | n + 1, h => by
    have ih := near_nr (f := f) (g := g) hv n (fun i hi => h i (by omega))
    obtain ⟨h1, h2⟩ := h n (by omega)
    show md_near f (nI v) n + (if f n ≤ nI v - 600 then 0 else 1) = nI (nr _ n + _)
    rw [ih, h1]
    have e : (nI (g n) ≤ nI v - 600) = ¬ (v < g n + 600) := by
      apply propext
      rw [Int32.le_iff_toInt_le, show (600 : Int32) = nI 600 from rfl, pk_sub_toInt (by omega) (by decide), nI_toInt (by omega)]
      omega
    simp only [e]
    by_cases hc : v < g n + 600
    · simp only [hc, not_true, if_false, decide_true, if_true]
      exact nI_1 _
    · simp only [hc, not_false_eq_true, if_true, decide_false, Bool.false_eq_true, if_false, Nat.add_zero]
      exact Int32.add_zero _
theorem near_eq {v zs : Nat} {X M : XF} (h : R_li v zs X M) (hv : v ≤ 200000) (hM : M 101 0 = nI v) : md_near (M 58) (M 101 0) zs = X 104 0 := by
  obtain ⟨h1, g, h2, h3, -⟩ := h
  rw [h3, hM]
  exact near_nr hv zs h2
theorem R_li.second {v zs : Nat} {X M X' M' : XF} (h : R_li v zs X M) (hv : v ≤ 200000) (hzs : zs < 2 ^ 31) (e1 : X' 104 0 = X 104 0) (e2 : X' 21 = X 21) (e3 : M' 116 = M 116) (e4 : M' 58 = M 58) : R_li (v + 1) zs (sc_5 v X') M' := by
  obtain ⟨h1, g, h2, h3, h4⟩ := h
  have hm : (v + 1) % 600 < 600 := Nat.mod_lt _ (by decide)
  refine ⟨by rw [e3]; exact h1, g, fun i hi => ?_, ?_, fun k hk => ?_⟩
  · rw [e4]
    exact ⟨(h2 i hi).1, Nat.le_succ_of_le (h2 i hi).2⟩
  · show X' 104 0 - X' 21 ((v + 1) % 600) = _
    rw [e1, e2, h3, h4 _ hm]
    have e : nr (fun i => decide (v < g i + 600)) zs = nr (fun i => decide (v + 1 < g i + 600)) zs + nr (fun i => decide (g i % 600 = (v + 1) % 600 ∧ v < g i + 600)) zs := nr_add (fun i hi => by
      have hg := (h2 i hi).2
      simp only [decide_eq_true_eq]
      by_cases c1 : v + 1 < g i + 600
      · rw [if_pos (by omega), if_pos c1, if_neg (by
          rintro ⟨q1, q2⟩
          omega)]
      · rw [if_neg c1]
        by_cases c2 : v < g i + 600
        · rw [if_pos c2, if_pos ⟨by omega, c2⟩]
        · rw [if_neg c2, if_neg (fun q => c2 q.2)])
    rw [e, pk_sub (Nat.le_add_left _ _), Nat.add_sub_cancel]
  · show upd (X' 21) ((v + 1) % 600) 0 k = _
    rw [upd_at, e2]
    by_cases hk' : k = (v + 1) % 600
    · rw [if_pos hk', nr_none (fun i hi => by
        have hg := (h2 i hi).2
        apply decide_eq_false
        rintro ⟨q1, q2⟩
        omega)]
      rfl
    · rw [if_neg hk', h4 k hk]
      congr 1
      exact nr_cong (fun i hi => by
        have hg := (h2 i hi).2
        by_cases c1 : g i % 600 = k
        · by_cases c2 : v < g i + 600
          · by_cases c3 : v + 1 < g i + 600
            · simp [c1, c2, c3]
            · exfalso; omega
          · have c3 : ¬ v + 1 < g i + 600 := by omega
            simp [c2, c3]
        · simp [c1])
/-! rules -/
def R_rl (z : Nat) (X M : XF) : Prop := X 25 = M 63 ∧ X 26 = M 64 ∧ X 27 = M 65 ∧ X 28 = M 66 ∧ X 29 = M 67 ∧ X 31 = M 68 ∧ X 34 = M 70 ∧ X 105 0 = nI z ∧ M 117 0 = nI z ∧ z ≤ 12 ∧ (∀ i, isCh (X 25 i)) ∧ (∀ i, i < z → okAb (X 25 i) (X 26 i)) ∧ (∀ i, i < z → ¬ X 25 i = 0 ∧ ¬ X 25 i = 45) ∧ (∀ i c, i < 12 → c < 6 → M 71 (6 * i + c) = if bt (X 32 i) c then 1 else 0) ∧ (∀ i, i < z → (X 33 i = -1 ∧ M 69 i = 0) ∨ ∃ c, c < 6 ∧ X 33 i = nI c ∧ M 69 i = 1 ∧ bt (X 32 i) c = true) ∧ ∀ i, z ≤ i → i < 12 → M 69 i = 0
/-- what stands beside the rules -/
def R_va (v zs : Nat) (X M : XF) : Prop := R_tk X M ∧ R_sn X M ∧ R_bt X M ∧ R_li v zs X M ∧ X 100 0 = M 115 0 ∧ X 41 = M 61 ∧ M 101 0 = nI v ∧ v ≤ 200000
theorem nIc {a n : Nat} (h : a < n) (hn : n ≤ 2 ^ 31) : (nI a).toNatClampNeg = a := nI_clamp (by omega)
theorem val_eq {v z zs : Nat} {X M : XF} (K : KF) (h : R_va v zs X M) (hr : R_rl z X M) {j : Nat} (hj : j < z) : cl_val X j = md_val M K zs j := by
  obtain ⟨ht, hs, hb, hl, hw, hg, hM, hv⟩ := h
  obtain ⟨r1, r2, -, -, -, -, -, -, -, -, -, ro, -⟩ := hr
  have ho := ro j hj
  unfold cl_val md_val
  rw [risk_eq hb, near_eq hl hv hM, hw, hg, ht.2.2.2.1, ← r1, ← r2]
  by_cases h1 : X 25 j = 98
  · rw [h1]; rfl
  · by_cases h2 : X 25 j = 108
    · rw [h2]; rfl
    · by_cases h3 : X 25 j = 115
      · obtain ⟨a, ha, ea⟩ := ho.2.1 h3
        rw [h3, ea, nIc ha (by decide)]
        show sn_tell (X 19) (X 18) a = md_tog (M 57) (M 56) a
        rw [← hs.1, ← hs.2.1]
        exact tog_eq hs.2.2.1 (hs.2.2.2.2 a ha)
      · by_cases h4 : X 25 j = 116
        · rw [h4]; rfl
        · by_cases h5 : X 25 j = 119
          · rw [h5]; rfl
          · rw [if_neg h4, if_neg h3, if_neg h5, if_neg h2, if_neg h1, if_neg h1, if_neg h2, if_neg h3, if_neg h4, if_neg h5]
theorem hn_eq {v z zs : Nat} {X M : XF} (K : KF) (h : R_va v zs X M) (hr : R_rl z X M) {j : Nat} (hj : j < z) : md_hn M K zs j = inr (X 27 j) (X 28 j) (cl_val X j) := by
  have e := val_eq K h hr hj
  obtain ⟨r1, r2, r3, r4, -⟩ := hr
  unfold md_hn
  rw [lin_inr, ← e, r3, r4]
theorem wv_eq {z : Nat} {X M : XF} (hr : R_rl z X M) {j : Nat} (hj : j < z) (c : Int32) : (rl_wv (X 33 j) (X 34 j) c = 0) = (M 69 j = 0 ∨ M 70 j < c) := by
  obtain ⟨-, -, -, -, -, -, r7, -, -, -, -, -, -, -, rw', -⟩ := hr
  unfold rl_wv
  rw [r7]
  rcases rw' j hj with ⟨e1, e2⟩ | ⟨b, hb, e1, e2, -⟩
  · rw [e1, e2, if_pos rfl]
    simp
  · have hne : ¬ X 33 j = -1 := by rw [e1]; exact nI_ne (by omega)
    rw [if_neg hne, e2]
    by_cases hc : M 70 j < c
    · simp [hc]
    · simp [hc]
theorem met_eq {v z zs : Nat} {X M : XF} (K : KF) (h : R_va v zs X M) (hr : R_rl z X M) (hb : M 103 0 = if X 118 0 = 45 then 0 else 1) (ha : X 106 0 = M 104 0) {j : Nat} (hj : j < z) : cl_met X j = md_met M K zs j := by
  have e1 := hn_eq K h hr hj
  have e2 := wv_eq hr hj (X 106 0)
  obtain ⟨-, -, -, -, r5, r6, -⟩ := hr
  refine bo_eq (cl_met_bo _ _) (md_met_bo _ _ _ _) ?_
  have hi : (cl_iw X j = 0) = (md_iw (M 69 j) (M 103 0) (M 70 j) (M 104 0) = 0) := by
    unfold cl_iw md_iw
    rw [hb]
    by_cases h45 : X 118 0 = 45
    · rw [if_pos h45, if_pos h45, if_pos rfl]
      simp
    · rw [if_neg h45, if_neg h45, if_neg (show ¬ (1 : Int32) = 0 by decide), ← ha]
      simp only [e2]
      by_cases q1 : M 69 j = 0
      · simp [q1]
      · by_cases q2 : M 70 j < X 106 0
        · simp [q2]
        · simp [q1, q2]
  unfold cl_met md_met rl_met
  rw [e1, r5, r6]
  simp only [hi]
  by_cases c1 : M 68 j < M 67 j
  · rw [if_pos c1]
    have : ¬ M 67 j ≤ M 68 j := lt_nle.mp c1
    rw [if_neg this]
    simp
  · rw [if_neg c1]
    have : M 67 j ≤ M 68 j := Classical.not_not.mp (fun q => c1 (lt_nle.mpr q))
    rw [if_pos this]
    by_cases c2 : inr (X 27 j) (X 28 j) (cl_val X j) = 0
    · simp [c2]
    · simp [c2]
theorem lk_eq {v z zs : Nat} {X M : XF} (K : KF) (h : R_va v zs X M) (hr : R_rl z X M) : ∀ i, i ≤ z → (lk_X X i).2 = gp_l M K zs i ∧ ∀ j, j < i → (lk_X X i).1 j = cl_val X j
  | 0, _ => ⟨hr.2.2.2.2.2.1, fun j hj => absurd hj (Nat.not_lt_zero j)⟩
  | i + 1, hi => by
    obtain ⟨ih1, ih2⟩ := lk_eq K h hr i (by omega)
    have e := hn_eq K h hr (j := i) (by omega)
    constructor
    · show upd (lk_X X i).2 i _ = upd (gp_l M K zs i) i _
      rw [ih1, e]
    · intro j hj
      show upd (lk_X X i).1 i (cl_val X i) j = _
      rw [upd_at]
      by_cases q : j = i
      · rw [if_pos q, q]
      · rw [if_neg q]; exact ih2 j (by omega)
theorem first_eq {v z zs : Nat} {X M : XF} (K : KF) (h : R_va v zs X M) (hr : R_rl z X M) (h30 : ∀ j, j < z → X 30 j = cl_val X j) (hb : ¬ M 103 0 = 0) (ha : X 106 0 = M 104 0) : ∀ n i, i + n = z → rl_first (X 31) (X 29) (X 27) (X 28) (X 30) (X 33) (X 34) (X 106 0) n i = md_fn M K zs n i
  | 0, _, _ => rfl
  | n + 1, i, hi => by
    have ih := first_eq K h hr h30 hb ha n (i + 1) (by omega)
    have e1 := hn_eq K h hr (j := i) (by omega)
    have e2 := wv_eq hr (j := i) (by omega) (X 106 0)
    have e3 := h30 i (by omega)
    obtain ⟨-, -, -, -, r5, r6, -⟩ := hr
    have key : (md_met M K zs i = 0) = (rl_met (X 31 i) (X 29 i) (X 27 i) (X 28 i) (X 30 i) = 0 ∧ rl_wv (X 33 i) (X 34 i) (X 106 0) = 0) := by
      unfold md_met rl_met md_iw
      rw [e1, e3, r5, r6, if_neg hb, ← ha]
      simp only [e2]
      by_cases c1 : M 68 i < M 67 i
      · have : ¬ M 67 i ≤ M 68 i := lt_nle.mp c1
        simp only [c1, this, if_true, if_false]
        by_cases q1 : M 69 i = 0
        · by_cases c2 : inr (X 27 i) (X 28 i) (cl_val X i) = 0 <;> simp [q1, c2]
        · by_cases q2 : M 70 i < X 106 0
          · by_cases c2 : inr (X 27 i) (X 28 i) (cl_val X i) = 0 <;> simp [q2, c2]
          · by_cases c2 : inr (X 27 i) (X 28 i) (cl_val X i) = 0 <;> simp [q1, q2, c2]
      · have : M 67 i ≤ M 68 i := Classical.not_not.mp (fun q => c1 (lt_nle.mpr q))
        simp only [c1, this, if_true, if_false]
        by_cases q1 : M 69 i = 0
        · by_cases c2 : inr (X 27 i) (X 28 i) (cl_val X i) = 0 <;> simp [q1, c2]
        · by_cases q2 : M 70 i < X 106 0
          · by_cases c2 : inr (X 27 i) (X 28 i) (cl_val X i) = 0 <;> simp [q2, c2]
          · by_cases c2 : inr (X 27 i) (X 28 i) (cl_val X i) = 0 <;> simp [q1, q2, c2]
    unfold rl_first md_fn
    simp only [key]
    by_cases c1 : rl_met (X 31 i) (X 29 i) (X 27 i) (X 28 i) (X 30 i) = 0
    · rw [if_pos c1]
      by_cases c2 : rl_wv (X 33 i) (X 34 i) (X 106 0) = 0
      · rw [if_pos c2, if_pos ⟨c1, c2⟩]
      · rw [if_neg c2, if_neg (fun q => c2 q.2)]
        exact ih
    · rw [if_neg c1, if_neg (fun q => c1 q.1)]
      exact ih
theorem good_all {z : Nat} {X M : XF} (hr : R_rl z X M) : ∀ n i, i + n = z → rl_first (X 31) (X 29) (X 27) (X 28) (X 30) (X 33) (X 34) (X 106 0) n i = -1 → rl_good (X 31) (X 29) (X 27) (X 28) (X 30) (X 33) (X 34) (X 32) (X 106 0) n i = 1
  | 0, _, _, _ => rfl
  | n + 1, i, hi, h => by
    unfold rl_first at h
    unfold rl_good
    by_cases c1 : rl_met (X 31 i) (X 29 i) (X 27 i) (X 28 i) (X 30 i) = 0
    · rw [if_pos c1] at h ⊢
      by_cases c2 : rl_wv (X 33 i) (X 34 i) (X 106 0) = 0
      · rw [if_pos c2] at h
        exact absurd h (nI_ne (by have := hr.2.2.2.2.2.2.2.2.2.1; omega))
      · rw [if_neg c2] at h ⊢
        have hm : ¬ rl_may (X 32 i) (X 33 i) = 0 := by
          rcases hr.2.2.2.2.2.2.2.2.2.2.2.2.2.2.1 i (by omega) with ⟨e1, -⟩ | ⟨c, hc, e1, -, e2⟩
          · exfalso
            apply c2
            unfold rl_wv
            rw [e1, if_pos rfl]
          · rw [e1, may_bt (by omega), e2]
            decide
        rw [if_neg hm]
        exact good_all hr n (i + 1) (by omega) h
    · rw [if_neg c1] at h ⊢
      exact good_all hr n (i + 1) (by omega) h
