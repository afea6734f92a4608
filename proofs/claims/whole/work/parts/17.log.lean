/-! the log -/
def kLg (K : KF) (w v c : Nat) : KF := kApp (kApp (kApp K w (decL v)) w [c]) w [59]
theorem ncap_ge (m cap : Nat) : cap ≤ ncap m cap := by
  unfold ncap
  split <;> omega
theorem kApp_ge0 (K : KF) (t : List Nat) : K.2.1 0 ≤ (kApp K 0 t).2.1 0 := ncap_ge _ _
theorem kApp_ge1 (K : KF) (t : List Nat) : K.2.1 1 ≤ (kApp K 1 t).2.1 1 := ncap_ge _ _
theorem kLg_c0 (K : KF) (v c : Nat) : (kLg K 0 v c).2.1 4 = K.2.1 4 + gcl ((K.2.2.1 0).length + sb_dg v) (K.2.1 0) + gcl (((kApp K 0 (decL v)).2.2.1 0).length + 1) ((kApp K 0 (decL v)).2.1 0) + gcl (((kApp (kApp K 0 (decL v)) 0 [c]).2.2.1 0).length + 1) ((kApp (kApp K 0 (decL v)) 0 [c]).2.1 0) := by
  rw [← decL_len v, ← List.length_append]
  simp [kLg, kApp, List.length_append, Nat.add_assoc]
theorem kLg_s0 (K : KF) (v c : Nat) : (kLg K 0 v c).2.1 6 = K.2.1 6 + gsl ((K.2.2.1 0).length + sb_dg v) (K.2.1 0) + gsl (((kApp K 0 (decL v)).2.2.1 0).length + 1) ((kApp K 0 (decL v)).2.1 0) + gsl (((kApp (kApp K 0 (decL v)) 0 [c]).2.2.1 0).length + 1) ((kApp (kApp K 0 (decL v)) 0 [c]).2.1 0) := by
  rw [← decL_len v, ← List.length_append]
  simp [kLg, kApp, List.length_append, Nat.add_assoc]
