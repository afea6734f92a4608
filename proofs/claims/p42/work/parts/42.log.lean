/-! the law: the text of the log -/
def lcp : Nat → Nat
  | 0 => 16
  | i + 1 => ncap (i + 1) (lcp i)
def lkc : Nat → Nat
  | 0 => 0
  | i + 1 => lkc i + gcl (i + 1) (lcp i)
def lsl : Nat → Nat
  | 0 => 0
  | i + 1 => lsl i + gsl (i + 1) (lcp i)
theorem lcp_ok : ∀ i : Nat, i ≤ lcp i ∧ 16 ≤ lcp i ∧ lcp i ≤ 2 * i + 16 ∧ lsl i + 32 ≤ 2 * lcp i ∧ 16 * (lkc i + 1) ≤ lcp i
  | 0 => ⟨by decide, by decide, by decide, by decide, by decide⟩
  | i + 1 => by
    obtain ⟨h1, h2, h3, h4, h5⟩ := lcp_ok i
    show i + 1 ≤ ncap (i + 1) (lcp i) ∧ 16 ≤ ncap (i + 1) (lcp i) ∧ ncap (i + 1) (lcp i) ≤ 2 * (i + 1) + 16 ∧ lsl i + gsl (i + 1) (lcp i) + 32 ≤ 2 * ncap (i + 1) (lcp i) ∧ 16 * (lkc i + gcl (i + 1) (lcp i) + 1) ≤ ncap (i + 1) (lcp i)
    unfold ncap gcl gsl
    split <;> omega
theorem lg_le (i : Nat) : lkc i ≤ lkc (i + 1) ∧ lsl i ≤ lsl (i + 1) := ⟨Nat.le_add_right _ _, Nat.le_add_right _ _⟩
theorem lg_mono {i j : Nat} (h : i ≤ j) : lkc i ≤ lkc j ∧ lsl i ≤ lsl j := by
  induction h with
  | refl => exact ⟨Nat.le_refl _, Nat.le_refl _⟩
  | step h ih => exact ⟨Nat.le_trans ih.1 (lg_le _).1, Nat.le_trans ih.2 (lg_le _).2⟩
theorem lg_top {i : Nat} (h : i ≤ 2000) : lkc i ≤ 250 ∧ lsl i ≤ 8000 ∧ i ≤ lcp i ∧ lcp i ≤ 4016 := by
  have := lcp_ok i
  omega
theorem i2c_of {c : Nat} (h : c < 128) : ((nI c).toUInt32 % 65536).toInt32 = nI c := (by decide +kernel : ∀ c : Fin 128, ((nI c.val).toUInt32 % 65536).toInt32 = nI c.val) ⟨c, h⟩
section
variable {G : MC} {cc : ByteArray} {own : String} {X M : XF} {K : KF} {L : List (Nat × Value)} {k n pc : Nat} {stk : List Value}
theorem g_open (kk : ∀ (b0 b1 : Nat) (f0 f1 : Nat → Int32), txOK (K.2.1 0) (K.2.2.1 0) f0 → txOK (K.2.1 1) (K.2.2.1 1) f1 → GH G (WB G (wL (gad G) (gcy G) b0 b1 f0 f1 X M K)) L k n pc stk) : GH G (WX G X M K) L k n pc stk := by
  intro H locs ls hl hw hS
  obtain ⟨b0, b1, f0, f1, h0, h1, hP, hD⟩ := hw
  exact kk b0 b1 f0 f1 h0 h1 H locs ls hl ⟨hP, hD⟩ hS
theorem g_close {b0 b1 : Nat} {f0 f1 : Nat → Int32} {E : va_W} {w : va_W} (h0 : txOK (K.2.1 0) (K.2.2.1 0) f0) (h1 : txOK (K.2.1 1) (K.2.2.1 1) f1) (hw : w = wL (gad G) (gcy G) b0 b1 f0 f1 X M (kE K E)) (kk : GH G (WX G X M (kE K E)) L k n pc stk) : GH G (WB G w) L k n pc stk := by
  subst hw
  exact g_W (fun H h => ⟨b0, b1, f0, f1, h0, h1, h.1, h.2⟩) kk
end
set_option maxRecDepth 100000 in
theorem wL_48 (ad : Nat → Nat) (cy : Nat → ClassId) (b0 b1 : Nat) (f0 f1 : Nat → Int32) (X M : XF) (K : KF) (p q : Nat × va_E) (E : va_W) : (wL ad cy b0 b1 f0 f1 X M (kE K (p :: q :: E)))[48]? = some p := rfl
set_option maxRecDepth 100000 in
theorem wL_49 (ad : Nat → Nat) (cy : Nat → ClassId) (b0 b1 : Nat) (f0 f1 : Nat → Int32) (X M : XF) (K : KF) (p q : Nat × va_E) (E : va_W) : (wL ad cy b0 b1 f0 f1 X M (kE K (p :: q :: E)))[49]? = some q := rfl
set_option maxRecDepth 100000 in
theorem wL_wT (cb : ClassId) (ad : Nat → Nat) (cy : Nat → ClassId) (b0 b1 : Nat) (f0 f1 : Nat → Int32) (X M : XF) (K : KF) (p q : Nat × va_E) (E : va_W) (a b n cap : Nat) (f : Nat → Int32) : wT cb (wL ad cy b0 b1 f0 f1 X M (kE K (p :: q :: E))) 48 49 a b n cap f = wL ad cy b0 b1 f0 f1 X M (kE K (tCell a b n :: tRow cb b cap f :: E)) := rfl
/-- the law's log -/
theorem c_L_log (l : Launch) (D : va_G) (cy : Nat → ClassId) (A : Nat → Prop) (ad sad : Nat → Nat) (X M : XF) (K : KF) (hE : K.2.2.2 = []) (hT : (K.2.2.1 0).length ≤ 2000) (hcap : K.2.1 0 < 2 ^ 26) (hch : ∀ j : Nat, (K.2.2.1 0).getD j 0 < 128) : Met l yL_log (wsA yL_log cL_log 3 (some (.object "java/lang/String"))) ({ frames := 14, cells := 300, slots := 20000, locals := 386 }) (PcW D cy A ad sad X M K [.ref (ad 0)]) (va_Qr (fun u : (Nat × va_E) × (Nat × va_E) × Nat × (Nat → Int32) => ∀ j, j < (K.2.2.1 0).length → u.2.2.2 j = nI ((K.2.2.1 0).getD j 0)) (fun u s t => (Wd D cy A ad X M (kE K [u.1, u.2.1, sObj s u.2.2.1, tRow (cy 3) u.2.2.1 (K.2.2.1 0).length u.2.2.2])) t.heap) A) 300 20000 A := by
  refine met_ofW [(0, .ref (ad 0))] (by decide +kernel) (Nat.le_of_ble_eq_true rfl) rfl ?_
  intro G C hl hR hL hD hcy hA had hsa hr hQ
  subst hD hcy hA had hsa hl
  have hrc : (gR G).cells = 300 := by rw [hR]
  have hrs : (gR G).slots = 20000 := by rw [hR]
  have hg := lg_top hT
  refine g_open (fun b0 b1 f0 f1 x0 x1 => ?_)
  refine gW_new C (ci := 12) [.null, .int 0, .int 0, .int 0] inT_J4 tyJ4 tyJ4_ok tw1197 tw280 tw13 rfl (by decide +kernel) (by omega) dL_log_0 (fun a => ?_)
  refine g_dup C dL_log_3 rfl ?_
  refine gW_ctor (S := Nat → Nat) (WQ := fun u => WB G (wL (gad G) (gcy G) b0 b1 f0 f1 X M K ++ f_J4_init_da8c8 (gcy G) a u)) (post := fun _ => True) C (c_J4_init_da8c8 _ _ _ _ _ _ a) tw1198 tw282 rfl tw13 tw283 ⟨by decide +kernel, by decide +kernel, rfl⟩ ⟨rfl, rfl⟩ (by rw [hR]; exact ⟨by show 2 + 1 ≤ 14; decide, by show 8 + (1 + 11) + 41 ≤ 386; decide⟩) rfl (Nat.le_of_ble_eq_true rfl) dL_log_4 (by omega) (fun u _ => ?_)
  refine g_close (E := [tCell a (u 0) 0, tRow (gcy G 3) (u 0) 16 (fun _ => 0)]) x0 x1 (by rw [wL_app, hE]; rfl) ?_
  refine g_astore_n C (L' := [(1, .ref a), (0, .ref (gad G 0))]) dL_log_7 rfl (by rw [hL]; decide) ?_
  refine g_iconst C dL_log_8 (v := 0) (by decide) ?_
  refine g_istore_n C (L' := [(2, .int 0), (1, .ref a), (0, .ref (gad G 0))]) dL_log_9 rfl (by rw [hL]; decide) ?_
  have lp : ∀ (n i q : Nat) (f : Nat → Int32) (_ : i + n = (K.2.2.1 0).length) (_ : sb_Fit f) (_ : ∀ j, j < i → f j = nI ((K.2.2.1 0).getD j 0)), GH G (WX G X M (kE K [tCell a q i, tRow (gcy G 3) q (lcp i) f])) [(2, .int (nI i)), (1, .ref a), (0, .ref (gad G 0))] (2 + lkc i) (20 + lsl i) 10 [] := by
    intro n
    induction n with
    | zero =>
      intro i q f hi hf hv
      obtain rfl : i = (K.2.2.1 0).length := by omega
      refine g_iload_n C dL_log_10 0 rfl ?_
      refine g_aload_n C dL_log_11 2 rfl ?_
      refine g_callViW C dL_log_12 (c_X10_logLength _ _ _ _ _ _ _ _ (kE K [tCell a q (K.2.2.1 0).length, tRow (gcy G 3) q (lcp (K.2.2.1 0).length) f]) hcap (by show (K.2.2.1 0).length < 2 ^ 26; omega)) tw1165 tw1166 tw1167 tw1 tw1168 (rv_X10 C) rfl ⟨by decide +kernel, by decide +kernel, rfl⟩ ⟨rfl, rfl⟩ (by rw [hR]; exact ⟨by show 2 + 1 ≤ 14; decide, by show 8 + (1 + 11) + 40 ≤ 386; decide⟩) (Nat.le_of_ble_eq_true rfl) (by omega) (fun r X1 M1 K1 h => ?_)
      obtain ⟨er, rfl, rfl, rfl⟩ := h
      refine g_topi (y := nI (K.2.2.1 0).length) er ?_
      refine g_icmp_ge C dL_log_15 (tgt := 38) (by decide) (fun c => ?_) (fun c => absurd (nI_le (Nat.le_refl _) (by omega)) c)
      refine g_aload_n C dL_log_38 1 rfl ?_
      refine g_open (fun b0 b1 f0 f1 x0 x1 => ?_)
      refine gW_callVr (S := Nat × (Nat → Int32)) (WR := fun u s => WB G (wL (gad G) (gcy G) b0 b1 f0 f1 X1 M1 (kE K [tCell a q (K.2.2.1 0).length, tRow (gcy G 3) q (lcp (K.2.2.1 0).length) f]) ++ [sObj s u.1, tRow (gcy G 3) u.1 (K.2.2.1 0).length u.2])) (post := fun u => ∀ j, j < (K.2.2.1 0).length → u.2 j = f j) C (c_J4_toString _ _ _ _ _ _ 48 49 a q _ _ f (wL_48 _ _ _ _ _ _ _ _ _ _ _ _) (wL_49 _ _ _ _ _ _ _ _ _ _ _ _) (by omega) hg.2.2.1 hf) tw1200 tw1201 tw1202 tw13 tw1203 (rvB C (wL_48 _ _ _ _ _ _ _ _ _ _ _ _)) ⟨by decide +kernel, by decide +kernel, rfl⟩ ⟨rfl, rfl⟩ (by rw [hR]; exact ⟨by show 5 + 1 ≤ 14; decide, by show 8 + (1 + 11) + 112 ≤ 386; decide⟩) rfl (Nat.le_of_ble_eq_true rfl) dL_log_39 (by omega) (fun u s hu => ?_)
      refine g_close (E := [tCell a q (K.2.2.1 0).length, tRow (gcy G 3) q (lcp (K.2.2.1 0).length) f, sObj s u.1, tRow (gcy G 3) u.1 (K.2.2.1 0).length u.2]) x0 x1 (by rw [wL_app]; rfl) ?_
      exact g_aretR (S := (Nat × va_E) × (Nat × va_E) × Nat × (Nat → Int32)) (post := fun u => ∀ j, j < (K.2.2.1 0).length → u.2.2.2 j = nI ((K.2.2.1 0).getD j 0)) (WR := fun u s => WX G X1 M1 (kE K [u.1, u.2.1, sObj s u.2.2.1, tRow (gcy G 3) u.2.2.1 (K.2.2.1 0).length u.2.2.2])) (tCell a q (K.2.2.1 0).length, tRow (gcy G 3) q (lcp (K.2.2.1 0).length) f, u.1, u.2) C hr (Or.inl ⟨_, rfl⟩) hQ (by omega) (by omega) dL_log_42 (fun j hj => (hu j hj).trans (hv j hj)) (fun H h => h)
    | succ n ih =>
      intro i q f hi hf hv
      have hli := lg_mono (show i + 1 ≤ (K.2.2.1 0).length by omega)
      have hl1 : lkc (i + 1) = lkc i + gcl (i + 1) (lcp i) := rfl
      have hl2 : lsl (i + 1) = lsl i + gsl (i + 1) (lcp i) := rfl
      have hci := lcp_ok i
      refine g_iload_n C dL_log_10 0 rfl ?_
      refine g_aload_n C dL_log_11 2 rfl ?_
      refine g_callViW C dL_log_12 (c_X10_logLength _ _ _ _ _ _ _ _ (kE K [tCell a q i, tRow (gcy G 3) q (lcp i) f]) hcap (by show (K.2.2.1 0).length < 2 ^ 26; omega)) tw1165 tw1166 tw1167 tw1 tw1168 (rv_X10 C) rfl ⟨by decide +kernel, by decide +kernel, rfl⟩ ⟨rfl, rfl⟩ (by rw [hR]; exact ⟨by show 2 + 1 ≤ 14; decide, by show 8 + (1 + 11) + 40 ≤ 386; decide⟩) (Nat.le_of_ble_eq_true rfl) (by omega) (fun r X1 M1 K1 h => ?_)
      obtain ⟨er, rfl, rfl, rfl⟩ := h
      refine g_topi (y := nI (K.2.2.1 0).length) er ?_
      refine g_icmp_ge C dL_log_15 (tgt := 38) (by decide) (fun c => absurd c (nI_ge (by omega) (by omega))) (fun c => ?_)
      refine g_aload_n C dL_log_18 1 rfl ?_
      refine g_aload_n C dL_log_19 2 rfl ?_
      refine g_bipush C dL_log_20 (v := 29) (by decide) ?_
      refine g_iload_n C dL_log_22 0 rfl ?_
      refine g_iconst C dL_log_23 (v := 0) (by decide) ?_
      refine g_callSiW C dL_log_24 (c_ask_29 _ _ _ _ _ _ _ _ (kE K [tCell a q i, tRow (gcy G 3) q (lcp i) f]) i (by show i < (K.2.2.1 0).length; omega) hcap (by show (K.2.2.1 0).length < 2 ^ 26; omega) hch 0) tw1112 tw1113 tw0 tw1114 rfl ⟨by decide +kernel, by decide +kernel, rfl⟩ ⟨rfl, rfl⟩ (by rw [hR]; exact ⟨by show 13 + 1 ≤ 14; decide, by show 8 + (4 + 11) + 363 ≤ 386; decide⟩) (Nat.le_of_ble_eq_true rfl) (by omega) (fun r X2 M2 K2 h => ?_)
      obtain ⟨er2, rfl, rfl, rfl⟩ := h
      refine g_topi (y := nI ((K.2.2.1 0).getD i 0)) er2 ?_
      refine g_i2c C dL_log_27 ?_
      refine g_topi (y := nI ((K.2.2.1 0).getD i 0)) (i2c_of (hch i)) ?_
      refine g_open (fun b0 b1 f0 f1 x0 x1 => ?_)
      have hM := c_apc (gl G) (gD G) (gcy G) (gA G) (gsa G) (wL (gad G) (gcy G) b0 b1 f0 f1 X2 M2 (kE K [tCell a q i, tRow (gcy G 3) q (lcp i) f])) 48 49 a q i (lcp i) f (okP_of (wL_48 _ _ _ _ _ _ _ _ _ _ _ _) (wL_49 _ _ _ _ _ _ _ _ _ _ _ _)) (by omega) hci.1 hf ((K.2.2.1 0).getD i 0) (hch i)
      rw [WTd_id (wL_48 _ _ _ _ _ _ _ _ _ _ _ _) (wL_49 _ _ _ _ _ _ _ _ _ _ _ _)] at hM
      refine gW_callVr (S := Nat × (Nat → Int32)) (WR := fun u r => fun H => r = a ∧ WB G (wT (gcy G 3) (wL (gad G) (gcy G) b0 b1 f0 f1 X2 M2 (kE K [tCell a q i, tRow (gcy G 3) q (lcp i) f])) 48 49 a u.1 (i + 1) (lcp (i + 1)) u.2) H) (post := fun u => sb_Fit u.2 ∧ u.2 i = nI ((K.2.2.1 0).getD i 0) ∧ ∀ j, j < i → u.2 j = f j) C hM tw1199 tw846 tw847 tw13 tw848 (rvB C (wL_48 _ _ _ _ _ _ _ _ _ _ _ _)) ⟨by decide +kernel, by decide +kernel, rfl⟩ ⟨rfl, rfl⟩ (by rw [hR]; exact ⟨by show 5 + 1 ≤ 14; decide, by show 8 + (2 + 11) + 160 ≤ 386; decide⟩) rfl (Nat.le_of_ble_eq_true rfl) dL_log_28 (by omega) (fun u r hu => ?_)
      refine gW_and (fun _ => ?_)
      refine g_close (E := [tCell a u.1 (i + 1), tRow (gcy G 3) u.1 (lcp (i + 1)) u.2]) x0 x1 (wL_wT _ _ _ _ _ _ _ _ _ _ _ _ _ _ _ _ _ _) ?_
      refine g_pop C dL_log_31 rfl ?_
      refine g_iinc C dL_log_32 0 rfl (v := nI (i + 1)) (nI_1 _) (L' := [(2, .int (nI (i + 1))), (1, .ref a), (0, .ref (gad G 0))]) rfl (by rw [hL]; decide) ?_
      refine g_goto C dL_log_35 (tgt := 10) (by decide) ?_
      exact g_wide (by omega) (by omega) (ih (i + 1) u.1 u.2 (by omega) hu.1 (fun j hj => by
        by_cases e : j = i
        · rw [e]; exact hu.2.1
        · exact (hu.2.2 j (by omega)).trans (hv j (by omega))))
  exact g_wide (by show 0 + 1 + 1 ≤ 2 + 0; decide) (by show 0 + 4 + 16 ≤ 20 + 0; decide) (lp (K.2.2.1 0).length 0 (u 0) (fun _ => 0) (by omega) sb_fit0 (fun j hj => absurd hj (Nat.not_lt_zero _)))
