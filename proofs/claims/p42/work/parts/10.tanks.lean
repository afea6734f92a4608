/-! normal forms of worlds -/
theorem sa_ap (X : XF) (k j : Nat) (f : Nat → Int32) : sa X k f j = if j = k then f else X j := rfl
theorem si_ap (X : XF) (k j : Nat) (v : Int32) : si X k v j = if j = k then (fun _ => v) else X j := rfl
theorem si_sa (X : XF) (k : Nat) (v : Int32) : si X k v = sa X k (fun _ => v) := rfl
theorem sa_3 (X : XF) {a b : Nat} (f0 f1 w0 : Nat → Int32) (hb : b ≠ a) : sa (sa (sa X a f0) b f1) a w0 = sa (sa X a w0) b f1 := by
  funext q
  by_cases h : q = a
  · subst h; simp [sa_ap, Ne.symm hb]
  · simp [sa_ap, h]
theorem sa_4 (X : XF) {a b c : Nat} (f0 f1 f2 w0 : Nat → Int32) (hb : b ≠ a) (hc : c ≠ a) : sa (sa (sa (sa X a f0) b f1) c f2) a w0 = sa (sa (sa X a w0) b f1) c f2 := by
  funext q
  by_cases h : q = a
  · subst h; simp [sa_ap, Ne.symm hb, Ne.symm hc]
  · simp [sa_ap, h]
theorem sa_5 (X : XF) {a b c d : Nat} (f0 f1 f2 f3 w0 : Nat → Int32) (hb : b ≠ a) (hc : c ≠ a) (hd : d ≠ a) : sa (sa (sa (sa (sa X a f0) b f1) c f2) d f3) a w0 = sa (sa (sa (sa X a w0) b f1) c f2) d f3 := by
  funext q
  by_cases h : q = a
  · subst h; simp [sa_ap, Ne.symm hb, Ne.symm hc, Ne.symm hd]
  · simp [sa_ap, h]
theorem sa_6 (X : XF) {a b c d e : Nat} (f0 f1 f2 f3 f4 w0 : Nat → Int32) (hb : b ≠ a) (hc : c ≠ a) (hd : d ≠ a) (he : e ≠ a) : sa (sa (sa (sa (sa (sa X a f0) b f1) c f2) d f3) e f4) a w0 = sa (sa (sa (sa (sa X a w0) b f1) c f2) d f3) e f4 := by
  funext q
  by_cases h : q = a
  · subst h; simp [sa_ap, Ne.symm hb, Ne.symm hc, Ne.symm hd, Ne.symm he]
  · simp [sa_ap, h]
theorem sa_7 (X : XF) {a b c d e f : Nat} (f0 f1 f2 f3 f4 f5 w0 : Nat → Int32) (hb : b ≠ a) (hc : c ≠ a) (hd : d ≠ a) (he : e ≠ a) (hf : f ≠ a) : sa (sa (sa (sa (sa (sa (sa X a f0) b f1) c f2) d f3) e f4) f f5) a w0 = sa (sa (sa (sa (sa (sa X a w0) b f1) c f2) d f3) e f4) f f5 := by
  funext q
  by_cases h : q = a
  · subst h; simp [sa_ap, Ne.symm hb, Ne.symm hc, Ne.symm hd, Ne.symm he, Ne.symm hf]
  · simp [sa_ap, h]
theorem sa_8 (X : XF) {a b c d e f g : Nat} (f0 f1 f2 f3 f4 f5 f6 w0 : Nat → Int32) (hb : b ≠ a) (hc : c ≠ a) (hd : d ≠ a) (he : e ≠ a) (hf : f ≠ a) (hg : g ≠ a) : sa (sa (sa (sa (sa (sa (sa (sa X a f0) b f1) c f2) d f3) e f4) f f5) g f6) a w0 = sa (sa (sa (sa (sa (sa (sa X a w0) b f1) c f2) d f3) e f4) f f5) g f6 := by
  funext q
  by_cases h : q = a
  · subst h; simp [sa_ap, Ne.symm hb, Ne.symm hc, Ne.symm hd, Ne.symm he, Ne.symm hf, Ne.symm hg]
  · simp [sa_ap, h]
theorem sa_self (X : XF) (k : Nat) : sa X k (X k) = X := sa_id X k rfl
theorem up_up (f : Nat → Int32) (i : Nat) (x y : Int32) : upd (upd f i x) i y = upd f i y := by
  funext q
  by_cases h : q = i <;> simp [upd, h]
theorem up_us (f : Nat → Int32) (i : Nat) (x : Int32) : upd f i x i = x := if_pos rfl
theorem up_self (f : Nat → Int32) (i : Nat) : upd f i (f i) = f := by
  funext q
  by_cases h : q = i <;> simp [upd, h]
theorem nI_3 : (3 : Int32) = nI 3 := rfl
/-! tanks, as numbers -/
def nt (x : Int32) : Int32 := x ^^^ (-1)
def absI (x : Int32) : Int32 := if 0 ≤ x then x else 0 - x
def tk_min (x y : Int32) : Int32 := if y < x then y else x
def tk_max (x y : Int32) : Int32 := if x < y then y else x
def tk_step (room rate boil opn : Nat → Int32) (i : Nat) (a : Nat → Int32) : Nat → Int32 :=
  if opn i = 0 then upd a i (a i - a i * boil i / 1000) else upd (upd a i (a i - a i * boil i / 1000)) i (tk_min (room i) (a i - a i * boil i / 1000 + rate i))
def tk_fill (room rate boil opn a : Nat → Int32) : Nat → Nat → Int32
  | 0 => a
  | i + 1 => tk_step room rate boil opn i (tk_fill room rate boil opn a i)
def tk_cnt (room : Nat → Int32) : Nat → Int32
  | 0 => 0
  | i + 1 => tk_cnt room i + (if room i ≤ 0 then 0 else 1)

set_option maxHeartbeats 400000 in
set_option maxRecDepth 100000 in
/-- define.define -/
theorem c_X9_define (l : Launch) (D : va_G) (cy : Nat → ClassId) (A : Nat → Prop) (ad sad : Nat → Nat) (X M : XF) (K : KF) (t : Nat) (ht : t < 3) (p1 p2 p3 : Int32) : Met l yX9_define (wsA yX9_define cX9_define 5 (some .int)) ({ frames := 1, cells := 0, slots := 0, locals := 21 }) (PcW D cy A ad sad X M K [.ref (ad 1), .int (nI t), .int p1, .int p2, .int p3]) (QiW D cy A ad (fun r X1 M1 K1 => r = tk_min (X 5 t) p1 ∧ X1 = sa (sa (sa (sa X 2 (upd (X 2) t p1)) 3 (upd (X 3) t p2)) 4 (upd (X 4) t p3)) 5 (upd (X 5) t (tk_min (X 5 t) p1)) ∧ M1 = M ∧ K1 = K)) 0 0 A := by
  refine met_ofW [(0, .ref (ad 1)), (1, .int (nI t)), (2, .int p1), (3, .int p2), (4, .int p3)] (by decide +kernel) (Nat.le_of_ble_eq_true rfl) rfl ?_
  intro G C hl hR hL hD hcy hA had hsa hr hQ
  subst hD hcy hA had hsa hl
  refine g_aload_n C dX9_define_0 0 rfl ?_
  refine gf_X9_room C tw54 dX9_define_1 ?_
  refine g_iload_n C dX9_define_4 1 rfl ?_
  refine g_iload_n C dX9_define_5 2 rfl ?_
  refine as_2 C (by omega) dX9_define_6 ?_
  refine g_aload_n C dX9_define_7 0 rfl ?_
  refine gf_X9_rate C tw55 dX9_define_8 ?_
  refine g_iload_n C dX9_define_11 1 rfl ?_
  refine g_iload_n C dX9_define_12 3 rfl ?_
  refine as_3 C (by omega) dX9_define_13 ?_
  refine g_aload_n C dX9_define_14 0 rfl ?_
  refine gf_X9_boil C tw56 dX9_define_15 ?_
  refine g_iload_n C dX9_define_18 1 rfl ?_
  refine g_iload C dX9_define_19 4 rfl ?_
  refine as_4 C (by omega) dX9_define_21 ?_
  refine g_aload_n C dX9_define_22 0 rfl ?_
  refine gf_X9_amount C tw57 dX9_define_23 ?_
  refine g_iload_n C dX9_define_26 1 rfl ?_
  refine g_aload_n C dX9_define_27 0 rfl ?_
  refine gf_X9_amount C tw57 dX9_define_28 ?_
  refine g_iload_n C dX9_define_31 1 rfl ?_
  refine al_5 C (by omega) dX9_define_32 ?_
  refine g_iload_n C dX9_define_33 2 rfl ?_
  refine g_min C dX9_define_34 tw526 (Nat.le_of_ble_eq_true rfl) (by rw [hR]; decide) ?_
  refine g_topi (y := tk_min _ _) rfl ?_
  refine as_5 C (by omega) dX9_define_37 ?_
  refine g_aload_n C dX9_define_38 0 rfl ?_
  refine gf_X9_amount C tw57 dX9_define_39 ?_
  refine g_iload_n C dX9_define_42 1 rfl ?_
  refine al_5 C (by omega) dX9_define_43 ?_
  refine g_iretW C hr hQ (Nat.le_refl _) (Nat.le_refl _) dX9_define_44 ?_
  exact ⟨if_pos rfl, rfl, rfl, rfl⟩

set_option maxHeartbeats 400000 in
set_option maxRecDepth 100000 in
/-- takeOut.takeOut -/
theorem c_X9_takeOut (l : Launch) (D : va_G) (cy : Nat → ClassId) (A : Nat → Prop) (ad sad : Nat → Nat) (X M : XF) (K : KF) (t : Nat) (ht : t < 3) (p1 : Int32) : Met l yX9_takeOut (wsA yX9_takeOut cX9_takeOut 4 (some .int)) ({ frames := 1, cells := 0, slots := 0, locals := 21 }) (PcW D cy A ad sad X M K [.ref (ad 1), .int (nI t), .int p1]) (QiW D cy A ad (fun r X1 M1 K1 => r = tk_min (X 5 t) p1 ∧ X1 = sa X 5 (upd (X 5) t (X 5 t - tk_min (X 5 t) p1)) ∧ M1 = M ∧ K1 = K)) 0 0 A := by
  refine met_ofW [(0, .ref (ad 1)), (1, .int (nI t)), (2, .int p1)] (by decide +kernel) (Nat.le_of_ble_eq_true rfl) rfl ?_
  intro G C hl hR hL hD hcy hA had hsa hr hQ
  subst hD hcy hA had hsa hl
  refine g_aload_n C dX9_takeOut_0 0 rfl ?_
  refine gf_X9_amount C tw57 dX9_takeOut_1 ?_
  refine g_iload_n C dX9_takeOut_4 1 rfl ?_
  refine al_5 C (by omega) dX9_takeOut_5 ?_
  refine g_iload_n C dX9_takeOut_6 2 rfl ?_
  refine g_min C dX9_takeOut_7 tw526 (Nat.le_of_ble_eq_true rfl) (by rw [hR]; decide) ?_
  refine g_topi (y := tk_min _ _) rfl ?_
  refine g_namei (fun v_1 ev_1 => ?_)
  refine g_istore_n C dX9_takeOut_10 (L' := [(3, .int v_1), (0, .ref (gad G 1)), (1, .int (nI t)), (2, .int p1)]) rfl (by rw [hL]; decide) ?_
  refine g_aload_n C dX9_takeOut_11 1 rfl ?_
  refine gf_X9_amount C tw57 dX9_takeOut_12 ?_
  refine g_iload_n C dX9_takeOut_15 2 rfl ?_
  refine g_dup2 C dX9_takeOut_16 rfl rfl ?_
  refine al_5 C (by omega) dX9_takeOut_17 ?_
  refine g_iload_n C dX9_takeOut_18 0 rfl ?_
  refine g_isub C dX9_takeOut_19 ?_
  refine as_5 C (by omega) dX9_takeOut_20 ?_
  refine g_iload_n C dX9_takeOut_21 0 rfl ?_
  refine g_iretW C hr hQ (Nat.le_refl _) (Nat.le_refl _) dX9_takeOut_22 ?_
  subst ev_1
  exact ⟨rfl, rfl, rfl, rfl⟩

set_option maxHeartbeats 400000 in
set_option maxRecDepth 100000 in
/-- boilAndFill.boilAndFill -/
theorem c_X9_boilAndFill (l : Launch) (D : va_G) (cy : Nat → ClassId) (A : Nat → Prop) (ad sad : Nat → Nat) (X M : XF) (K : KF) : Met l yX9_boilAndFill (wsA yX9_boilAndFill cX9_boilAndFill 2 none) ({ frames := 1, cells := 0, slots := 0, locals := 21 }) (PcW D cy A ad sad X M K [.ref (ad 1)]) (QvW D cy A ad (fun X1 M1 K1 => X1 = sa X 5 (tk_fill (X 2) (X 3) (X 4) (X 6) (X 5) 3) ∧ M1 = M ∧ K1 = K)) 0 0 A := by
  refine met_ofW [(0, .ref (ad 1))] (by decide +kernel) (Nat.le_of_ble_eq_true rfl) rfl ?_
  intro G C hl hR hL hD hcy hA had hsa hr hQ
  subst hD hcy hA had hsa hl
  refine g_iconst C dX9_boilAndFill_0 (v := 0) (by decide) ?_
  refine g_istore_n C dX9_boilAndFill_1 (L' := [(1, .int 0), (0, .ref (gad G 1))]) rfl (by rw [hL]; decide) ?_
  have lp2 : ∀ (n i : Nat) (hi : i + n = 3), GH G (WX G (sa X 5 (tk_fill (X 2) (X 3) (X 4) (X 6) (X 5) i)) M K) [(0, .ref (gad G 1)), (1, .int (nI i))] 0 0 2 [] := by
    intro n
    induction n with
    | zero =>
      intro i hi
      obtain rfl : i = 3 := by omega
      refine g_iload_n C dX9_boilAndFill_2 1 rfl ?_
      refine g_iconst C dX9_boilAndFill_3 (v := 3) (by decide) ?_
      refine g_icmp_ge C dX9_boilAndFill_4 (tgt := 76) (by decide) (fun c_4 => ?_) (fun c_4 => absurd (nI_le (a := 3) (b := 3) (Nat.le_refl _) (by omega)) c_4)
      refine g_vretW C hr hQ (Nat.le_refl _) (Nat.le_refl _) dX9_boilAndFill_76 ?_
      exact ⟨rfl, rfl, rfl⟩
    | succ n ih =>
      intro i hi
      refine g_iload_n C dX9_boilAndFill_2 1 rfl ?_
      refine g_iconst C dX9_boilAndFill_3 (v := 3) (by decide) ?_
      refine g_icmp_ge C dX9_boilAndFill_4 (tgt := 76) (by decide) (fun c_4 => absurd c_4 (nI_ge (a := i) (b := 3) (by omega) (by omega))) (fun c_4 => ?_)
      refine g_aload_n C dX9_boilAndFill_7 0 rfl ?_
      refine gf_X9_amount C tw57 dX9_boilAndFill_8 ?_
      refine g_iload_n C dX9_boilAndFill_11 1 rfl ?_
      refine g_dup2 C dX9_boilAndFill_12 rfl rfl ?_
      refine al_5 C (by omega) dX9_boilAndFill_13 ?_
      refine g_aload_n C dX9_boilAndFill_14 0 rfl ?_
      refine gf_X9_amount C tw57 dX9_boilAndFill_15 ?_
      refine g_iload_n C dX9_boilAndFill_18 1 rfl ?_
      refine al_5 C (by omega) dX9_boilAndFill_19 ?_
      refine g_aload_n C dX9_boilAndFill_20 0 rfl ?_
      refine gf_X9_boil C tw56 dX9_boilAndFill_21 ?_
      refine g_iload_n C dX9_boilAndFill_24 1 rfl ?_
      refine al_4 C (by omega) dX9_boilAndFill_25 ?_
      refine g_imul C dX9_boilAndFill_26 ?_
      refine g_sipush C dX9_boilAndFill_27 (v := 1000) (by decide) ?_
      refine g_idiv C dX9_boilAndFill_30 (by decide) ?_
      refine g_isub C dX9_boilAndFill_31 ?_
      refine as_5 C (by omega) dX9_boilAndFill_32 ?_
      refine g_aload_n C dX9_boilAndFill_33 0 rfl ?_
      refine gf_X9_isOpen C tw59 dX9_boilAndFill_34 ?_
      refine g_iload_n C dX9_boilAndFill_37 1 rfl ?_
      refine al_6 C (by omega) dX9_boilAndFill_38 ?_
      refine g_if_eq C dX9_boilAndFill_39 (tgt := 70) (by decide) (fun c_39 => ?_) (fun c_39 => ?_)
      · try simp only [sa_ap, si_ap, reduceIte, Nat.reduceEqDiff, up_us, lg_cmp_lt, lg_cmp_gt, lg_cmp_le, lg_cmp_ge] at c_39
        refine g_iinc C dX9_boilAndFill_70 1 rfl (v := nI (i + 1)) (nI_1 _) (L' := [(1, .int (nI (i + 1))), (0, .ref (gad G 1))]) rfl (by rw [hL]; decide) ?_
        refine g_goto C dX9_boilAndFill_73 (tgt := 2) (by decide) ?_
        exact g_sub [1, 0] rfl (g_X (by first | with_reducible rfl | (first | with_reducible rfl | (simp only [sa_ap, si_ap, si_sa, sa_sa, sa_3, sa_4, sa_5, sa_6, sa_7, sa_8, tk_fill, tk_step, up_us, up_up, c_39]; done) | (simp [sa_ap, si_ap, si_sa, sa_sa, sa_3, sa_4, sa_5, sa_6, sa_7, sa_8, tk_fill, tk_step, up_us, up_up, c_39]; done) | rfl)) (ih (i + 1) (by omega)))
      · try simp only [sa_ap, si_ap, reduceIte, Nat.reduceEqDiff, up_us, lg_cmp_lt, lg_cmp_gt, lg_cmp_le, lg_cmp_ge] at c_39
        refine g_aload_n C dX9_boilAndFill_42 0 rfl ?_
        refine gf_X9_amount C tw57 dX9_boilAndFill_43 ?_
        refine g_iload_n C dX9_boilAndFill_46 1 rfl ?_
        refine g_aload_n C dX9_boilAndFill_47 0 rfl ?_
        refine gf_X9_room C tw54 dX9_boilAndFill_48 ?_
        refine g_iload_n C dX9_boilAndFill_51 1 rfl ?_
        refine al_2 C (by omega) dX9_boilAndFill_52 ?_
        refine g_aload_n C dX9_boilAndFill_53 0 rfl ?_
        refine gf_X9_amount C tw57 dX9_boilAndFill_54 ?_
        refine g_iload_n C dX9_boilAndFill_57 1 rfl ?_
        refine al_5 C (by omega) dX9_boilAndFill_58 ?_
        refine g_aload_n C dX9_boilAndFill_59 0 rfl ?_
        refine gf_X9_rate C tw55 dX9_boilAndFill_60 ?_
        refine g_iload_n C dX9_boilAndFill_63 1 rfl ?_
        refine al_3 C (by omega) dX9_boilAndFill_64 ?_
        refine g_iadd C dX9_boilAndFill_65 ?_
        refine g_min C dX9_boilAndFill_66 tw526 (Nat.le_of_ble_eq_true rfl) (by rw [hR]; decide) ?_
        refine g_topi (y := tk_min _ _) rfl ?_
        refine as_5 C (by omega) dX9_boilAndFill_69 ?_
        refine g_iinc C dX9_boilAndFill_70 1 rfl (v := nI (i + 1)) (nI_1 _) (L' := [(1, .int (nI (i + 1))), (0, .ref (gad G 1))]) rfl (by rw [hL]; decide) ?_
        refine g_goto C dX9_boilAndFill_73 (tgt := 2) (by decide) ?_
        exact g_sub [1, 0] rfl (g_X (by first | with_reducible rfl | (first | with_reducible rfl | (simp only [sa_ap, si_ap, si_sa, sa_sa, sa_3, sa_4, sa_5, sa_6, sa_7, sa_8, tk_fill, tk_step, up_us, up_up, c_39]; done) | (simp [sa_ap, si_ap, si_sa, sa_sa, sa_3, sa_4, sa_5, sa_6, sa_7, sa_8, tk_fill, tk_step, up_us, up_up, c_39]; done) | rfl)) (ih (i + 1) (by omega)))
  exact g_sub [1, 0] rfl (g_X (sa_self X 5).symm (lp2 (3) 0 (by omega)))


set_option maxHeartbeats 400000 in
set_option maxRecDepth 100000 in
/-- areWithinRoom.areWithinRoom -/
theorem c_X9_areWithinRoom (l : Launch) (D : va_G) (cy : Nat → ClassId) (A : Nat → Prop) (ad sad : Nat → Nat) (X M : XF) (K : KF) (hle : ∀ i : Nat, i < 3 → X 5 i ≤ X 2 i) : Met l yX9_areWithinRoom (wsA yX9_areWithinRoom cX9_areWithinRoom 2 (some .boolean)) ({ frames := 0, cells := 0, slots := 0, locals := 0 }) (PcW D cy A ad sad X M K [.ref (ad 1)]) (QiW D cy A ad (fun r X1 M1 K1 => r = 1 ∧ X1 = X ∧ M1 = M ∧ K1 = K)) 0 0 A := by
  refine met_ofW [(0, .ref (ad 1))] (by decide +kernel) (Nat.le_of_ble_eq_true rfl) rfl ?_
  intro G C hl hR hL hD hcy hA had hsa hr hQ
  subst hD hcy hA had hsa hl
  refine g_iconst C dX9_areWithinRoom_0 (v := 0) (by decide) ?_
  refine g_istore_n C dX9_areWithinRoom_1 (L' := [(1, .int 0), (0, .ref (gad G 1))]) rfl (by rw [hL]; decide) ?_
  have lp2 : ∀ (n i : Nat) (hi : i + n = 3), GH G (WX G X M K) [(0, .ref (gad G 1)), (1, .int (nI i))] 0 0 2 [] := by
    intro n
    induction n with
    | zero =>
      intro i hi
      obtain rfl : i = 3 := by omega
      refine g_iload_n C dX9_areWithinRoom_2 1 rfl ?_
      refine g_iconst C dX9_areWithinRoom_3 (v := 3) (by decide) ?_
      refine g_icmp_ge C dX9_areWithinRoom_4 (tgt := 30) (by decide) (fun c_4 => ?_) (fun c_4 => absurd (nI_le (a := 3) (b := 3) (Nat.le_refl _) (by omega)) c_4)
      refine g_iconst C dX9_areWithinRoom_30 (v := 1) (by decide) ?_
      refine g_zretW C hr (by decide) hQ (Nat.le_refl _) (Nat.le_refl _) dX9_areWithinRoom_31 ?_
      exact ⟨rfl, rfl, rfl, rfl⟩
    | succ n ih =>
      intro i hi
      refine g_iload_n C dX9_areWithinRoom_2 1 rfl ?_
      refine g_iconst C dX9_areWithinRoom_3 (v := 3) (by decide) ?_
      refine g_icmp_ge C dX9_areWithinRoom_4 (tgt := 30) (by decide) (fun c_4 => absurd c_4 (nI_ge (a := i) (b := 3) (by omega) (by omega))) (fun c_4 => ?_)
      refine g_aload_n C dX9_areWithinRoom_7 0 rfl ?_
      refine gf_X9_amount C tw57 dX9_areWithinRoom_8 ?_
      refine g_iload_n C dX9_areWithinRoom_11 1 rfl ?_
      refine al_5 C (by omega) dX9_areWithinRoom_12 ?_
      refine g_aload_n C dX9_areWithinRoom_13 0 rfl ?_
      refine gf_X9_room C tw54 dX9_areWithinRoom_14 ?_
      refine g_iload_n C dX9_areWithinRoom_17 1 rfl ?_
      refine al_2 C (by omega) dX9_areWithinRoom_18 ?_
      refine g_icmp_le C dX9_areWithinRoom_19 (tgt := 24) (by decide) (fun c_19 => ?_) (fun c_19 => absurd (hle i (by omega)) c_19)
      refine g_iinc C dX9_areWithinRoom_24 1 rfl (v := nI (i + 1)) (nI_1 _) (L' := [(1, .int (nI (i + 1))), (0, .ref (gad G 1))]) rfl (by rw [hL]; decide) ?_
      refine g_goto C dX9_areWithinRoom_27 (tgt := 2) (by decide) ?_
      exact g_sub [1, 0] rfl (ih (i + 1) (by omega))
  exact g_sub [1, 0] rfl (lp2 (3) 0 (by omega))
