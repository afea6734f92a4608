/-! the law holds -/
section
variable {sad : Nat → Nat} {e v z5 : Nat} {X M : XF} {K : KF}
theorem IV.okN (I : IV sad e v z5 X M K) : ∃ n, okN (K.2.2.1 0) n := by
  obtain ⟨-, -, -, n, hL, ⟨c1, c2, c3, c4⟩, -⟩ := I.tx
  have h1 := I.lv
  have h2 := I.le
  refine ⟨n, hL, c1, by omega, ?_, by omega⟩
  rw [c3]
  unfold hl_N
  split <;> decide
theorem IV.snd (I : IV sad e v z5 X M K) : snd_X X (K.2.2.1 0) = 1 := by
  have ht : tl_all X (K.2.2.1 0) = 1 := by
    unfold tl_all
    rw [if_pos I.tx.2.1.1.symm, if_pos I.tx.2.1.2.1]
  unfold snd_X
  by_cases h : md_hl (X 118 0) = 0
  · rw [if_pos h, ht]
    rfl
  · obtain ⟨a, b⟩ := I.cn.2.2.2.2.2.2.2.2 h
    rw [if_neg h, if_neg a, if_neg b, ht]
    rfl
theorem IV.hle (I : IV sad e v z5 X M K) : ∀ i : Nat, i < 3 → X 5 i ≤ X 2 i := by
  intro i hi
  obtain ⟨h2, -, -, -, -, -, -, a, ha, h5⟩ := I.tk.1 i hi
  rw [h2, h5]
  have := pn_lt sad i (m := 400) (by decide)
  exact nI_le ha (by omega)
theorem IV.cap (I : IV sad e v z5 X M K) : K.2.1 0 < 2 ^ 26 := by
  have := I.num.2.1
  omega
theorem IV.len26 (I : IV sad e v z5 X M K) : (K.2.2.1 0).length < 2 ^ 26 := by
  have := I.len
  omega
theorem nI_mul6 (i : Nat) : (6 : Int32) * nI i = nI (6 * i) := (Int32.ofNat_mul 6 i).symm
end

set_option maxHeartbeats 2000000 in
set_option maxRecDepth 100000 in
/-- holds.holds -/
theorem c_L_holds (l : Launch) (D : va_G) (cy : Nat → ClassId) (A : Nat → Prop) (ad sad : Nat → Nat) (X M : XF) (K : KF) (hB0 : Bd sad 0 0 0 0 0 X M K) (hst : l.stackTraces = false) : Met l yL_holds (wsA yL_holds cL_holds 5 (some .boolean)) ({ frames := 18, cells := 22694, slots := 5913494, locals := 492 }) (PcW D cy A ad sad X M K [.ref (ad 42), .ref (sad 900)]) (QiW D cy A ad (fun r X1 M1 K1 => r = 1)) 22694 5913494 A := by
  refine met_ofW [(0, .ref (ad 42)), (1, .ref (sad 900))] (by decide +kernel) (Nat.le_of_ble_eq_true rfl) rfl ?_
  intro G C hl hR hL hD hcy hA had hsa hr hQ
  subst hD hcy hA had hsa hl
  have hrc : (gR G).cells = 22694 := by rw [hR]
  have hrs : (gR G).slots = 5913494 := by rw [hR]
  refine g_aload_n C dL_holds_0 0 rfl ?_
  refine g_aload_n C dL_holds_1 1 rfl ?_
  refine g_callVvW C dL_holds_2 (c_L_build _ _ _ _ _ _ _ _ _ hB0 hst) tw395 tw397 tp1 tw0 tw398 (rv_L C) rfl ⟨by decide +kernel, by decide +kernel, rfl⟩ ⟨rfl, rfl⟩ (by rw [hR]; exact ⟨Nat.le_of_ble_eq_true rfl, Nat.le_of_ble_eq_true rfl⟩) (Nat.le_of_ble_eq_true rfl) (by omega) (fun X_2 M_2 K_2 h_1 => ?_)
  obtain ⟨z5, I_2⟩ := h_1
  refine g_aload_n C dL_holds_5 0 rfl ?_
  refine g_aload_n C dL_holds_6 1 rfl ?_
  refine g_bipush C dL_holds_7 (v := 80) (by decide) ?_
  refine g_topi (y := nI 80) rfl ?_
  refine g_callViW C dL_holds_9 (c_L_begins _ _ _ _ _ _ _ _ _ 80 (by decide) 0 0 z5 I_2 (by omega) hst) tw1133 tw1135 tp16 tw0 tw1136 (rv_L C) rfl ⟨by decide +kernel, by decide +kernel, rfl⟩ ⟨rfl, rfl⟩ (by rw [hR]; exact ⟨Nat.le_of_ble_eq_true rfl, Nat.le_of_ble_eq_true rfl⟩) (Nat.le_of_ble_eq_true rfl) (by omega) (fun r_2 X_9 M_9 K_9 h_3 => ?_)
  obtain ⟨er_2, I_9, h_9⟩ := h_3
  refine g_topi (y := 1) er_2 ?_
  refine g_istore_n C dL_holds_12 (L' := [(2, .int 1), (0, .ref (gad G 42)), (1, .ref (gsa G 900))]) rfl (by rw [hL]; decide) ?_
  refine g_iconst C dL_holds_13 (v := 0) (by decide) ?_
  refine g_istore_n C dL_holds_14 (L' := [(3, .int 0), (2, .int 1), (0, .ref (gad G 42)), (1, .ref (gsa G 900))]) rfl (by rw [hL]; decide) ?_
  have lp15 : ∀ (n i : Nat) (Y : XF) (N : XF) (Kk : KF) (hi : i + n = 70) (I : IV (gsa G) (i + 1) i z5 Y N Kk) (h45 : ¬ Y 118 0 = 45), GH G (WX G Y N Kk) [(3, .int (nI i)), (2, .int 1), (1, .ref (gsa G 900)), (0, .ref (gad G 42))] (14 + 324 * i) (32024 + 84021 * i) 15 [] := by
    intro n
    induction n with
    | zero =>
      intro i Y N Kk hi I h45
      obtain rfl : i = 70 := by omega
      refine g_iload_n C dL_holds_15 0 rfl ?_
      refine g_bipush C dL_holds_16 (v := 70) (by decide) ?_
      refine g_icmp_ge C dL_holds_18 (tgt := 101) (by decide) (fun c_18 => ?_) (fun c_18 => absurd (nI_le (a := 70) (b := 70) (Nat.le_refl _) (by omega)) c_18)
      refine g_iload_n C dL_holds_101 1 rfl ?_
      refine g_zretW C hr (by decide) hQ (by omega) (by omega) dL_holds_102 ?_
      rfl
    | succ n ih =>
      intro i Y N Kk hi I h45
      refine g_iload_n C dL_holds_15 0 rfl ?_
      refine g_bipush C dL_holds_16 (v := 70) (by decide) ?_
      refine g_icmp_ge C dL_holds_18 (tgt := 101) (by decide) (fun c_18 => absurd c_18 (nI_ge (a := i) (b := 70) (by omega) (by omega))) (fun c_18 => ?_)
      refine g_iload_n C dL_holds_21 1 rfl ?_
      refine g_if_eq C dL_holds_22 (tgt := 101) (by decide) (fun c_22 => absurd c_22 (by decide)) (fun c_22 => ?_)
      refine g_bipush C dL_holds_25 (v := 90) (by decide) ?_
      refine g_bipush C dL_holds_27 (v := 6) (by decide) ?_
      refine g_iload_n C dL_holds_29 0 rfl ?_
      refine g_imul C dL_holds_30 ?_
      refine g_topi (y := nI (6 * i)) (nI_mul6 i) ?_
      refine g_iadd C dL_holds_31 ?_
      refine g_topi (y := nI (90 + 6 * i)) (by exact nI_add 90 (6 * i)) ?_
      refine g_istore C dL_holds_32 (L' := [(4, .int (nI (90 + 6 * i))), (3, .int (nI i)), (2, .int 1), (1, .ref (gsa G 900)), (0, .ref (gad G 42))]) rfl (by rw [hL]; decide) ?_
      refine g_aload_n C dL_holds_34 4 rfl ?_
      refine g_aload_n C dL_holds_35 3 rfl ?_
      refine g_iload C dL_holds_36 0 rfl ?_
      refine g_callViW C dL_holds_38 (c_L_happens _ _ _ _ _ _ _ _ _ (90 + 6 * i) (by omega) _ _ _ I h45 (by omega) hst) tw1145 tw1147 tp17 tw0 tw1148 (rv_L C) rfl ⟨by decide +kernel, by decide +kernel, rfl⟩ ⟨rfl, rfl⟩ (by rw [hR]; exact ⟨Nat.le_of_ble_eq_true rfl, Nat.le_of_ble_eq_true rfl⟩) (Nat.le_of_ble_eq_true rfl) (by omega) (fun r_4 X_38 M_38 K_38 h_5 => ?_)
      obtain ⟨er_4, I_38, h_38⟩ := h_5
      refine g_topi (y := 1) er_4 ?_
      refine g_if_eq C dL_holds_41 (tgt := 93) (by decide) (fun c_41 => absurd c_41 (by decide)) (fun c_41 => ?_)
      refine g_aload_n C dL_holds_44 4 rfl ?_
      refine gf_L_o C tw363 dL_holds_45 ?_
      refine g_callViW C dL_holds_48 (c_X10_state _ _ _ _ _ _ _ _ _ I_38.ch118) tw1141 tw1142 tw1143 tw1 tw1144 (rv_X10 C) rfl ⟨by decide +kernel, by decide +kernel, rfl⟩ ⟨rfl, rfl⟩ (by rw [hR]; exact ⟨Nat.le_of_ble_eq_true rfl, Nat.le_of_ble_eq_true rfl⟩) (Nat.le_of_ble_eq_true rfl) (by omega) (fun r_6 X1 M1 K1 h_7 => ?_)
      obtain ⟨rfl, hX1, hM1, hK1⟩ := h_7
      subst X1 M1 K1
      refine g_bipush C dL_holds_51 (v := 45) (by decide) ?_
      refine g_icmp_eq C dL_holds_53 (tgt := 64) (by decide) (fun c_53 => absurd c_53 h_38) (fun c_53 => ?_)
      refine g_aload_n C dL_holds_56 4 rfl ?_
      refine g_aload_n C dL_holds_57 3 rfl ?_
      refine g_callViW C dL_holds_58 (c_L_passes _ _ _ _ _ _ _ _ _ _ _ _ I_38 h_38 (by omega) hst) tw1161 tw1163 tp19 tw0 tw1164 (rv_L C) rfl ⟨by decide +kernel, by decide +kernel, rfl⟩ ⟨rfl, rfl⟩ (by rw [hR]; exact ⟨Nat.le_of_ble_eq_true rfl, Nat.le_of_ble_eq_true rfl⟩) (Nat.le_of_ble_eq_true rfl) (by omega) (fun r_8 X_58 M_58 K_58 h_9 => ?_)
      obtain ⟨er_8, I_58, h_58⟩ := h_9
      refine g_topi (y := 1) er_8 ?_
      refine g_if_eq C dL_holds_61 (tgt := 93) (by decide) (fun c_61 => absurd c_61 (by decide)) (fun c_61 => ?_)
      refine g_aload_n C dL_holds_64 4 rfl ?_
      refine g_aload_n C dL_holds_65 3 rfl ?_
      refine g_callViW C dL_holds_66 (c_L_areStepsRight _ _ _ _ _ _ _ _ _ I_58.x8 I_58.ch12 I_58.sp.2.2.2.2) tw1186 tw1188 tp24 tw0 tw1189 (rv_L C) rfl ⟨by decide +kernel, by decide +kernel, rfl⟩ ⟨rfl, rfl⟩ (by rw [hR]; exact ⟨Nat.le_of_ble_eq_true rfl, Nat.le_of_ble_eq_true rfl⟩) (Nat.le_of_ble_eq_true rfl) (by omega) (fun r_10 X1 M1 K1 h_11 => ?_)
      obtain ⟨rfl, hX1, hM1, hK1⟩ := h_11
      subst X1 M1 K1
      refine g_if_eq C dL_holds_69 (tgt := 93) (by decide) (fun c_69 => absurd c_69 (by decide)) (fun c_69 => ?_)
      obtain ⟨n9, hn9⟩ := I_58.okN
      refine g_aload_n C dL_holds_72 4 rfl ?_
      refine g_callViW C dL_holds_73 (c_L_isLogged _ _ _ _ _ _ _ _ _ I_58.tx.2.2.1 I_58.len I_58.cap n9 hn9) tw1190 tw1192 tp25 tw0 tw1193 (rv_L C) rfl ⟨by decide +kernel, by decide +kernel, rfl⟩ ⟨rfl, rfl⟩ (by rw [hR]; exact ⟨Nat.le_of_ble_eq_true rfl, Nat.le_of_ble_eq_true rfl⟩) (Nat.le_of_ble_eq_true rfl) (by omega) (fun r_12 X1 M1 K1 h_13 => ?_)
      obtain ⟨rfl, hX1, hM1, hK1⟩ := h_13
      subst X1 M1 K1
      refine g_if_eq C dL_holds_76 (tgt := 93) (by decide) (fun c_76 => absurd c_76 (by decide)) (fun c_76 => ?_)
      refine g_aload_n C dL_holds_79 4 rfl ?_
      refine gf_L_o C tw363 dL_holds_80 ?_
      refine g_callViW C dL_holds_83 (c_X10_isSound _ _ _ _ _ _ _ _ _ I_58.hle I_58.cap I_58.len26) tw1347 tw1348 tw1349 tw1 tw1350 (rv_X10 C) rfl ⟨by decide +kernel, by decide +kernel, rfl⟩ ⟨rfl, rfl⟩ (by rw [hR]; exact ⟨Nat.le_of_ble_eq_true rfl, Nat.le_of_ble_eq_true rfl⟩) (Nat.le_of_ble_eq_true rfl) (by omega) (fun r_14 X1 M1 K1 h_15 => ?_)
      obtain ⟨rfl, hX1, hM1, hK1⟩ := h_15
      subst X1 M1 K1
      refine g_if_eq C dL_holds_86 (tgt := 93) (by decide) (fun c_86 => absurd c_86 (by rw [I_58.snd]; decide)) (fun c_86 => ?_)
      refine g_iconst C dL_holds_89 (v := 1) (by decide) ?_
      refine g_goto C dL_holds_90 (tgt := 94) (by decide) ?_
      refine g_istore_n C dL_holds_94 (L' := [(2, .int 1), (4, .int (nI (90 + 6 * i))), (3, .int (nI i)), (1, .ref (gsa G 900)), (0, .ref (gad G 42))]) rfl (by rw [hL]; decide) ?_
      refine g_iinc C dL_holds_95 2 rfl (v := nI (i + 1)) (nI_1 _) (L' := [(3, .int (nI (i + 1))), (2, .int 1), (4, .int (nI (90 + 6 * i))), (1, .ref (gsa G 900)), (0, .ref (gad G 42))]) rfl (by rw [hL]; decide) ?_
      refine g_goto C dL_holds_98 (tgt := 15) (by decide) ?_
      exact g_sub [0, 1, 3, 4] rfl (g_to rfl rfl (by omega) (by omega) (ih (i + 1) _ _ _ (by omega) I_58 h_58))
  exact g_sub [0, 1, 3, 2] rfl (g_to rfl rfl (by omega) (by omega) (lp15 (70) 0 _ _ _ (by omega) I_9 h_9))

