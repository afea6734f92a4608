/-! the log -/
def kLg (K : KF) (w v c : Nat) : KF := kApp (kApp (kApp K w (decL v)) w [c]) w [59]
theorem ncap_ge (m cap : Nat) : cap ≤ ncap m cap := by
  unfold ncap
  split <;> omega
theorem kApp_ge0 (K : KF) (t : List Nat) : K.2.1 0 ≤ (kApp K 0 t).2.1 0 := ncap_ge _ _
theorem kApp_ge1 (K : KF) (t : List Nat) : K.2.1 1 ≤ (kApp K 1 t).2.1 1 := ncap_ge _ _
theorem kLg_c0 (K : KF) (v c : Nat) : (kLg K 0 v c).2.1 4 = K.2.1 4 + gcl ((K.2.2.1 0).length + sb_dg v) (K.2.1 0) + gcl (((kApp K 0 (decL v)).2.2.1 0).length + 1) ((kApp K 0 (decL v)).2.1 0) + gcl (((kApp (kApp K 0 (decL v)) 0 [c]).2.2.1 0).length + 1) ((kApp (kApp K 0 (decL v)) 0 [c]).2.1 0) := by
  rw [← decL_len v, ← List.length_append]
  simp [kLg, kApp, List.length_append, Nat.add_assoc]
theorem kLg_s0 (K : KF) (v c : Nat) : (kLg K 0 v c).2.1 6 = K.2.1 6 + gsl ((K.2.2.1 0).length + sb_dg v) (K.2.1 0) + gsl (((kApp K 0 (decL v)).2.2.1 0).length + 1) ((kApp K 0 (decL v)).2.1 0) + gsl (((kApp (kApp K 0 (decL v)) 0 [c]).2.2.1 0).length + 1) ((kApp (kApp K 0 (decL v)) 0 [c]).2.1 0) := by
  rw [← decL_len v, ← List.length_append]
  simp [kLg, kApp, List.length_append, Nat.add_assoc]
theorem kLg_c1 (K : KF) (v c : Nat) : (kLg K 1 v c).2.1 5 = K.2.1 5 + gcl ((K.2.2.1 1).length + sb_dg v) (K.2.1 1) + gcl (((kApp K 1 (decL v)).2.2.1 1).length + 1) ((kApp K 1 (decL v)).2.1 1) + gcl (((kApp (kApp K 1 (decL v)) 1 [c]).2.2.1 1).length + 1) ((kApp (kApp K 1 (decL v)) 1 [c]).2.1 1) := by
  rw [← decL_len v, ← List.length_append]
  simp [kLg, kApp, List.length_append, Nat.add_assoc]
theorem kLg_s1 (K : KF) (v c : Nat) : (kLg K 1 v c).2.1 7 = K.2.1 7 + gsl ((K.2.2.1 1).length + sb_dg v) (K.2.1 1) + gsl (((kApp K 1 (decL v)).2.2.1 1).length + 1) ((kApp K 1 (decL v)).2.1 1) + gsl (((kApp (kApp K 1 (decL v)) 1 [c]).2.2.1 1).length + 1) ((kApp (kApp K 1 (decL v)) 1 [c]).2.1 1) := by
  rw [← decL_len v, ← List.length_append]
  simp [kLg, kApp, List.length_append, Nat.add_assoc]
/-- Log.change -/
theorem c_X4_change (l : Launch) (D : va_G) (cy : Nat → ClassId) (A : Nat → Prop) (ad sad : Nat → Nat) (X M : XF) (K : KF) (v c : Nat) (s : Int32) (hv : v < 1000000) (hc : c < 128) (hs : isCh s) (h16 : 16 ≤ K.2.1 0) (hcap : (kLg K 0 v c).2.1 0 < 2 ^ 26) : Met l yX4_change (wsA yX4_change cX4_change 4 none) ({ frames := 6, cells := (kLg K 0 v c).2.1 4 - K.2.1 4, slots := (kLg K 0 v c).2.1 6 - K.2.1 6, locals := 190 }) (PcW D cy A ad sad X M K [.ref (ad 38), .int (nI v), .int (nI c), .int s]) (QvW D cy A ad (fun X1 M1 K1 => X1 = si (si X 118 s) 119 (X 119 0 + 1) ∧ M1 = M ∧ K1 = kLg K 0 v c)) ((kLg K 0 v c).2.1 4 - K.2.1 4) ((kLg K 0 v c).2.1 6 - K.2.1 6) A := by
  refine met_ofW [(0, .ref (ad 38)), (1, .int (nI v)), (2, .int (nI c)), (3, .int s)] (by decide +kernel) (Nat.le_of_ble_eq_true rfl) rfl ?_
  intro G C hl hR hL hD hcy hA had hsa hr hQ
  subst hD hcy hA had hsa hl
  have e4 := kLg_c0 K v c
  have e6 := kLg_s0 K v c
  have g1 := kApp_ge0 K (decL v)
  have g2 := kApp_ge0 (kApp K 0 (decL v)) [c]
  have g3 : (kApp (kApp K 0 (decL v)) 0 [c]).2.1 0 ≤ (kLg K 0 v c).2.1 0 := kApp_ge0 _ _
  refine g_aload_n C dX4_change_0 0 rfl ?_
  refine gf_X4_text C tw311 dX4_change_1 ?_
  refine g_iload_n C dX4_change_4 1 rfl ?_
  refine g_callVrW (u0 := (X, M, kApp K 0 (decL v))) C (c_apiW0 _ _ _ _ _ _ X M K v hv h16 (by omega)) tw761 tw762 tw763 tw13 tw764 (rv_J4_0 C) ⟨by decide +kernel, by decide +kernel, rfl⟩ ⟨rfl, rfl⟩ (by rw [hR]; exact ⟨by show 5 + 1 ≤ 6; decide, by show 8 + (2 + 11) + 160 ≤ 190; decide⟩) rfl (Nat.le_of_ble_eq_true rfl) dX4_change_5 (by rw [hR]; exact ⟨by show 0 + _ ≤ _ - _; omega, by show 0 + _ ≤ _ - _; omega⟩) ?_
  refine g_iload_n C dX4_change_8 2 rfl ?_
  refine g_callVrW (u0 := (X, M, kApp (kApp K 0 (decL v)) 0 [c])) C (c_apcW0 _ _ _ _ _ _ X M (kApp K 0 (decL v)) c hc (by omega)) tw845 tw846 tw847 tw13 tw848 (rv_J4_0 C) ⟨by decide +kernel, by decide +kernel, rfl⟩ ⟨rfl, rfl⟩ (by rw [hR]; exact ⟨by show 5 + 1 ≤ 6; decide, by show 8 + (2 + 11) + 160 ≤ 190; decide⟩) rfl (Nat.le_of_ble_eq_true rfl) dX4_change_9 (by rw [hR]; exact ⟨by show 0 + _ + _ ≤ _ - _; omega, by show 0 + _ + _ ≤ _ - _; omega⟩) ?_
  refine g_bipush C dX4_change_12 (v := 59) (by decide) ?_
  refine g_callVrW (u0 := (X, M, kLg K 0 v c)) C (c_apcW0 _ _ _ _ _ _ X M (kApp (kApp K 0 (decL v)) 0 [c]) 59 (by decide) (by omega)) tw845 tw846 tw847 tw13 tw848 (rv_J4_0 C) ⟨by decide +kernel, by decide +kernel, rfl⟩ ⟨rfl, rfl⟩ (by rw [hR]; exact ⟨by show 5 + 1 ≤ 6; decide, by show 8 + (2 + 11) + 160 ≤ 190; decide⟩) rfl (Nat.le_of_ble_eq_true rfl) dX4_change_14 (by rw [hR]; exact ⟨by show 0 + _ + _ + _ ≤ _ - _; omega, by show 0 + _ + _ + _ ≤ _ - _; omega⟩) ?_
  refine g_pop C dX4_change_17 rfl ?_
  refine g_aload_n C dX4_change_18 0 rfl ?_
  refine g_iload_n C dX4_change_19 3 rfl ?_
  refine pf_X4_state C hs tw313 dX4_change_20 ?_
  refine g_aload_n C dX4_change_23 0 rfl ?_
  refine g_dup C dX4_change_24 rfl ?_
  refine gf_X4_changes C tw315 dX4_change_25 ?_
  refine g_iconst C dX4_change_28 (v := 1) (by decide) ?_
  refine g_iadd C dX4_change_29 ?_
  refine pf_X4_changes C tw315 dX4_change_30 ?_
  exact g_vretW C hr hQ (by omega) (by omega) dX4_change_33 ⟨rfl, rfl, rfl⟩

