/-! a second: tanks, steps, rules -/
def tk_T (room rate boil opn a : Nat → Int32) (k : Nat) : Int32 := if opn k = 0 then a k - a k * boil k / 1000 else tk_min (room k) (a k - a k * boil k / 1000 + rate k)
theorem iteS {k i : Nat} (e : ¬ k = i) (x y : Int32) : (if k < i + 1 then x else y) = if k < i then x else y := by
  by_cases h : k < i
  · rw [if_pos h, if_pos (by omega)]
  · rw [if_neg h, if_neg (by omega)]
theorem fill_at (room rate boil opn a : Nat → Int32) : ∀ i k, tk_fill room rate boil opn a i k = if k < i then tk_T room rate boil opn a k else a k
  | 0, k => rfl
  | i + 1, k => by
    have ih := fill_at room rate boil opn a i
    have hi : tk_fill room rate boil opn a i i = a i := by rw [ih, if_neg (Nat.lt_irrefl _)]
    show tk_step room rate boil opn i (tk_fill room rate boil opn a i) k = _
    unfold tk_step
    by_cases e : k = i
    · subst e
      rw [if_pos (Nat.lt_succ_self k), hi]
      unfold tk_T
      split
      · rw [up_us]
      · rw [up_us]
    · rw [iteS e, ← ih k]
      split
      · rw [pk_un e]
      · rw [pk_un e, pk_un e]
theorem tk_num {room rate boil a : Nat → Int32} {opn : Nat → Int32} {k R r b x : Nat} (h1 : room k = nI R) (h2 : rate k = nI r) (h3 : boil k = nI b) (h4 : a k = nI x) (hR : R < 400) (hr : r < 30) (hb : b < 40) (hx : x ≤ R) : ∃ y, y ≤ R ∧ tk_T room rate boil opn a k = nI y := by
  unfold tk_T tk_min
  have hxb : x * b ≤ x * 40 := Nat.mul_le_mul_left x (by omega)
  have hd : x * b / 1000 ≤ x := by omega
  have e : a k - a k * boil k / 1000 = nI (x - x * b / 1000) := by
    rw [h4, h3, pk_mul, show (1000 : Int32) = nI 1000 from rfl, pk_div (by omega) (by decide) (by decide), pk_sub hd]
  rw [e, h1, h2, nI_add]
  split
  · exact ⟨_, by omega, rfl⟩
  · split
    · rename_i q
      have := (nI_ltI (by omega) (by omega)).mp q
      exact ⟨_, by omega, rfl⟩
    · exact ⟨R, Nat.le_refl _, rfl⟩
/-- the steps that run on -/
theorem wa_at (l s : Nat → Int32) : ∀ n, (∀ j, (s j = 45 → (sp_wa l s n).2 j = 45) ∧ (s j = 101 → (sp_wa l s n).2 j = 101) ∧ ((sp_wa l s n).2 j = 45 → s j = 45)) ∧ ((∀ i, isCh (s i)) → ∀ i, isCh ((sp_wa l s n).2 i))
  | 0 => ⟨fun _ => ⟨id, id, id⟩, id⟩
  | n + 1 => by
    obtain ⟨ih, ic⟩ := wa_at l s n
    unfold sp_wa
    split
    · rename_i q
      have hx : ∀ c : Prop, ∀ [Decidable c], ¬ (if c then (101 : Int32) else 114) = 45 := fun c _ => by split <;> decide
      refine ⟨fun j => ?_, fun hc i => ?_⟩
      · by_cases e : j = n
        · subst e
          refine ⟨fun w => ?_, fun w => ?_, fun w => ?_⟩
          · rw [(ih j).1 w] at q; exact absurd q (by decide)
          · rw [(ih j).2.1 w] at q; exact absurd q (by decide)
          · exact absurd ((up_us _ _ _).symm.trans w) (hx _)
        · show (s j = 45 → upd _ n _ j = 45) ∧ (s j = 101 → upd _ n _ j = 101) ∧ (upd _ n _ j = 45 → s j = 45)
          rw [pk_un e]
          exact ih j
      · show isCh (upd _ n _ i)
        by_cases e : i = n
        · subst e
          rw [up_us]
          split <;> exact ⟨by decide, by decide⟩
        · rw [pk_un e]
          exact ic hc i
    · exact ⟨ih, ic⟩
/-- the steps that begin -/
theorem wb_at (dn c : Int32) (fr secs beh l s : Nat → Int32) : ∀ n, (∀ j, (s j = 101 → (sp_wb dn c fr secs beh l s n).2 j = 101) ∧ (¬ (sp_wb dn c fr secs beh l s n).2 j = 45 → ¬ s j = 45 ∨ (beh j &&& nt dn) = 0)) ∧ ((∀ i, isCh (s i)) → ∀ i, isCh ((sp_wb dn c fr secs beh l s n).2 i))
  | 0 => ⟨fun _ => ⟨id, fun q => Or.inl q⟩, id⟩
  | n + 1 => by
    obtain ⟨ih, ic⟩ := wb_at dn c fr secs beh l s n
    unfold sp_wb
    split
    · rename_i q
      split
      · exact ⟨ih, ic⟩
      · split
        · rename_i q2
          refine ⟨fun j => ?_, fun hc i => ?_⟩
          · show (s j = 101 → upd _ n _ j = 101) ∧ (¬ upd _ n _ j = 45 → _)
            by_cases e : j = n
            · subst e
              refine ⟨fun w => ?_, fun _ => Or.inr q2⟩
              rw [(ih j).1 w] at q
              exact absurd q (by decide)
            · rw [pk_un e]
              exact ih j
          · show isCh (upd _ n _ i)
            by_cases e : i = n
            · subst e; rw [up_us]; exact ⟨by decide, by decide⟩
            · rw [pk_un e]; exact ic hc i
        · exact ⟨ih, ic⟩
    · exact ⟨ih, ic⟩
theorem or_and0 {a b m : Int32} (h : (a ||| b) &&& m = 0) : b &&& m = 0 := by
  refine Int32.toBitVec_inj.mp (BitVec.eq_of_getLsbD_eq (fun i hi => ?_))
  have h2 := congrArg (fun x : Int32 => x.toBitVec.getLsbD i) h
  simp only [Int32.toBitVec_and, Int32.toBitVec_or, BitVec.getLsbD_and, BitVec.getLsbD_or, Int32.toBitVec_zero, BitVec.getLsbD_zero] at h2 ⊢
  cases hb : b.toBitVec.getLsbD i
  · rfl
  · rw [hb] at h2
    simpa using h2
def bN (b : Bool) (i : Nat) : Int32 := if b then 1 <<< (nI i &&& 31) else 0
theorem on_5 (s : Nat → Int32) : sp_on s 5 = 0 ||| bN (s 0 = 101) 0 ||| bN (s 1 = 101) 1 ||| bN (s 2 = 101) 2 ||| bN (s 3 = 101) 3 ||| bN (s 4 = 101) 4 := by
  simp [sp_on, bN]
theorem on_dec : ∀ b0 b1 b2 b3 b4 : Bool, ∀ p : Fin 5, (1 <<< (nI p.val &&& 31) : Int32) &&& nt (0 ||| bN b0 0 ||| bN b1 1 ||| bN b2 2 ||| bN b3 3 ||| bN b4 4) = 0 → ([b0, b1, b2, b3, b4].getD p.val false) = true := by decide +kernel
theorem on_bit {s : Nat → Int32} {b : Int32} {p : Nat} (hp : p < 5) (h : (b ||| (1 <<< (nI p &&& 31))) &&& nt (sp_on s 5) = 0) : s p = 101 := by
  have h1 := or_and0 h
  rw [on_5] at h1
  have h2 := on_dec _ _ _ _ _ ⟨p, hp⟩ h1
  have e : p = 0 ∨ p = 1 ∨ p = 2 ∨ p = 3 ∨ p = 4 := by omega
  rcases e with rfl | rfl | rfl | rfl | rfl <;> simpa using h2
/-- the rules looked at -/
theorem lk_at (W : XF) : ∀ i j, ((lk_X W i).1 j = if j < i then cl_val W j else W 30 j) ∧ ((lk_X W i).2 j = if j < i then (if inr (W 27 j) (W 28 j) (cl_val W j) = 0 then 0 else W 31 j + 1) else W 31 j)
  | 0, _ => ⟨rfl, rfl⟩
  | i + 1, j => by
    have ih := lk_at W i
    show (upd (lk_X W i).1 i (cl_val W i) j = _) ∧ (upd (lk_X W i).2 i (if inr (W 27 i) (W 28 i) (cl_val W i) = 0 then 0 else (lk_X W i).2 i + 1) j = _)
    by_cases e : j = i
    · subst e
      rw [up_us, up_us, if_pos (Nat.lt_succ_self j), if_pos (Nat.lt_succ_self j), (ih j).2, if_neg (Nat.lt_irrefl j)]
      exact ⟨rfl, rfl⟩
    · rw [pk_un e, pk_un e, iteS e, iteS e]
      exact ih j
theorem wv_eq {sad : Nat → Nat} {Y M : XF} {j : Nat} {c : Int32} (h : wv_ok sad Y M j) (hc : -21 ≤ c.toInt) : rl_wv (Y 33 j) (Y 34 j) c = wv_l M j c := by
  have hp := pn_lt sad (60 + j) (m := 6) (by decide)
  unfold wv_l
  rcases h with ⟨q1, q2⟩ | ⟨q1, q2⟩
  · rw [q1, q2]
    unfold rl_wv
    rw [if_pos rfl, if_pos]
    rw [Int32.lt_iff_toInt_lt]
    have : (-9999 : Int32).toInt = -9999 := by decide
    omega
  · rw [q1, q2]
    unfold rl_wv
    rw [if_neg (nI_nneg (by omega) (by decide))]
theorem im_eq {sad : Nat → Nat} {X' M : XF} {j : Nat} {c h s lo hi v w : Int32} (e1 : h = X' 31 j) (e2 : s = nI (pn sad (54 + j) 4)) (e3 : lo = lo_f sad j) (e4 : hi = hi_f sad j) (e5 : v = cl_val X' j) (e6 : w = wv_l M j c) : im_f sad X' M j c = 0 ↔ (rl_met h s lo hi v = 0 ∧ w = 0) := by
  subst e1 e2 e3 e4 e5 e6
  unfold im_f rl_met inr
  by_cases a1 : cl_val X' j < lo_f sad j
  · rw [if_pos a1, if_pos a1]
    constructor
    · intro q
      refine ⟨?_, q⟩
      split
      · rfl
      · rfl
    · exact fun q => q.2
  · rw [if_neg a1, if_neg a1]
    by_cases a2 : hi_f sad j < cl_val X' j
    · rw [if_pos a2, if_pos a2]
      constructor
      · intro q
        refine ⟨?_, q⟩
        split
        · rfl
        · rfl
      · exact fun q => q.2
    · rw [if_neg a2, if_neg a2]
      by_cases a3 : nI (pn sad (54 + j) 4) ≤ X' 31 j
      · rw [if_pos a3, if_neg (Int32.not_lt.mpr a3), if_neg (by decide)]
        constructor
        · intro q; exact absurd q (by decide)
        · intro q; exact absurd q.1 (by decide)
      · rw [if_neg a3, if_pos (Int32.not_le.mp a3)]
        constructor
        · exact fun q => ⟨rfl, q⟩
        · exact fun q => q.2
theorem lf_eq {sad : Nat → Nat} {X' M : XF} {h s lo hi v b u : Nat → Int32} {c : Int32} (heq : ∀ j : Nat, j < 6 → (im_f sad X' M j c = 0 ↔ (rl_met (h j) (s j) (lo j) (hi j) (v j) = 0 ∧ rl_wv (b j) (u j) c = 0))) : ∀ n i, i + n = 6 → rl_first h s lo hi v b u c n i = if lf sad X' M c n i = 6 then -1 else nI (lf sad X' M c n i)
  | 0, i, hi6 => by
    obtain rfl : i = 6 := by omega
    rfl
  | n + 1, i, hi6 => by
    have ih := lf_eq heq n (i + 1) (by omega)
    have q := heq i (by omega)
    unfold rl_first lf
    by_cases c1 : im_f sad X' M i c = 0
    · obtain ⟨q1, q2⟩ := q.mp c1
      rw [if_pos q1, if_pos q2, if_pos c1, if_neg (by omega)]
    · rw [if_neg c1]
      by_cases q1 : rl_met (h i) (s i) (lo i) (hi i) (v i) = 0
      · rw [if_pos q1]
        by_cases q2 : rl_wv (b i) (u i) c = 0
        · exact absurd (q.mpr ⟨q1, q2⟩) c1
        · rw [if_neg q2]; exact ih
      · rw [if_neg q1]; exact ih
/-- what a second does, in the law's words -/
def PX (sad : Nat → Nat) (v : Nat) (X X' M : XF) (ls : List Nat) : Prop :=
  ((ls = [] ∧ X' 118 0 = X 118 0) ∨ (¬ ls = [] ∧ ¬ X' 118 0 = X 118 0)) ∧
  (md_ic (X 118 0) = 0 → X' 118 0 = X 118 0 ∨ (X 118 0 = 102 ∧ (X' 118 0 = 120 ∨ X' 118 0 = 111))) ∧
  (¬ md_ic (X 118 0) = 0 →
    (X' 118 0 = 104 ∧ X' 109 0 = X 109 0 + 1 ∧ X' 106 0 = X 106 0 ∧ (∀ f : Nat, lf sad X' M (X 106 0) 6 0 = f → f < 6 → X' 111 0 = kndB.getD f 0 ∧ X' 112 0 = nI f) ∧ (lf sad X' M (X 106 0) 6 0 = 6 → X' 112 0 = -1 ∧ (X' 111 0 = 109 ∨ X' 111 0 = 111 ∧ X 106 0 = -1 ∧ X' 101 0 < M 100 0))) ∨
    (X' 118 0 = 115 ∧ M 101 0 < nI (v + 1) - X' 106 0) ∨
    (X' 118 0 = 99 ∧ X' 109 0 = X 109 0 ∧ lf sad X' M (X 106 0) 6 0 = 6 ∧ X' 106 0 = X 106 0 + 1 ∧ nI (v + 1) - (X 106 0 + 1) ≤ M 101 0 ∧ X 106 0 < -1) ∨
    (X' 118 0 = 102 ∧ X' 109 0 = X 109 0 ∧ lf sad X' M (X 106 0) 6 0 = 6 ∧ X' 106 0 = X 106 0 + 1 ∧ X 106 0 = -1 ∧ M 100 0 ≤ nI (v + 1) ∧ nI (v + 1) ≤ M 101 0))
section
variable {sad : Nat → Nat} {e v z5 : Nat} {X M : XF} {K : KF}
theorem IV.inY (I : IV sad e v z5 X M K) (z8 z : Nat) : IN v (sc_3 z (sc_2 z8 (sc_1 X))) := by
  obtain ⟨c1, c2, c3, ⟨b, hb, c4, -⟩, c5, c6, c7, c8, c9⟩ := I.cn
  have hv := I.lv
  have k : ∀ {k : Nat}, (k ≠ 5 ∧ k ≠ 10 ∧ k ≠ 12 ∧ k ≠ 30 ∧ k ≠ 31) → sc_3 z (sc_2 z8 (sc_1 X)) k = X k := fun h => sc_13 z z8 X h
  unfold IN
  rw [k (k := 118) (by decide), k (k := 106) (by decide), k (k := 111) (by decide), k (k := 113) (by decide), k (k := 117) (by decide), k (k := 107) (by decide), k (k := 108) (by decide), k (k := 115) (by decide), k (k := 25) (by decide), k (k := 33) (by decide), k (k := 32) (by decide)]
  refine ⟨c2, c5, c6, c7, c8, c9, I.rl.2.1, fun j hj => ?_, hv, b, by omega, c4⟩
  obtain ⟨-, -, -, -, -, hm, hw⟩ := I.rl.2.2.2 j hj
  rcases hw with ⟨q, -⟩ | ⟨q, -⟩
  · exact Or.inl q
  · exact Or.inr (by rw [q]; exact hm)
set_option maxHeartbeats 2000000 in
theorem IV.pass (I : IV sad e v z5 X M K) (hv69 : v ≤ 69) : IV sad e (v + 1) z5 (sc_A v 6 z5 5 X).1 M (kLs K 0 v (sc_A v 6 z5 5 X).2) ∧ (∀ k : Nat, k < 3 → (sc_A v 6 z5 5 X).1 5 k = tr_f M (X 5) k) ∧ (∀ k : Nat, k < 6 → (sc_A v 6 z5 5 X).1 31 k = 0 ∨ (sc_A v 6 z5 5 X).1 31 k = X 31 k + 1) ∧ PX sad v X (sc_A v 6 z5 5 X).1 M (sc_A v 6 z5 5 X).2 ∧ (sc_A v 6 z5 5 X).2.length ≤ 4 := by
  have hin := I.inY 5 6
  obtain ⟨hok, hpr⟩ := sc4_ok hin z5
  have hsg := sc_sgn v 6 z5 5 X
  obtain ⟨c1, c2, ⟨oa, hoa, c3, c3m⟩, ⟨sb, hsb, c4, c4m⟩, c5, c6, c7, c8, c9⟩ := I.cn
  have yk : ∀ {k : Nat}, (k ≠ 5 ∧ k ≠ 10 ∧ k ≠ 12 ∧ k ≠ 30 ∧ k ≠ 31) → sc_3 6 (sc_2 5 (sc_1 X)) k = X k := fun h => sc_13 6 5 X h
  have wk : ∀ {k : Nat}, (k ≠ 5 ∧ k ≠ 10 ∧ k ≠ 12) → sc_2 5 (sc_1 X) k = X k := fun h => sc_12 5 X h
  have hY5 : sc_3 6 (sc_2 5 (sc_1 X)) 5 = tk_fill (X 2) (X 3) (X 4) (X 6) (X 5) 3 := by
    rw [sc_3_k _ _ (by decide), sc_2_k _ _ (by decide)]; rfl
  have hW5 : sc_2 5 (sc_1 X) 5 = tk_fill (X 2) (X 3) (X 4) (X 6) (X 5) 3 := by
    rw [sc_2_k _ _ (by decide)]; rfl
  have hY12 : sc_3 6 (sc_2 5 (sc_1 X)) 12 = sc_2 5 (sc_1 X) 12 := sc_3_k _ _ (by decide)
  have hY31 : ∀ j : Nat, j < 6 → sc_3 6 (sc_2 5 (sc_1 X)) 31 j = if inr (X 27 j) (X 28 j) (cl_val (sc_2 5 (sc_1 X)) j) = 0 then 0 else X 31 j + 1 := fun j hj => by
    have q := (lk_at (sc_2 5 (sc_1 X)) 6 j).2
    rw [if_pos hj, wk (by decide), wk (by decide), wk (by decide)] at q
    exact q
  have hY30 : ∀ j : Nat, j < 6 → sc_3 6 (sc_2 5 (sc_1 X)) 30 j = cl_val (sc_2 5 (sc_1 X)) j := fun j hj => by
    have q := (lk_at (sc_2 5 (sc_1 X)) 6 j).1
    rw [if_pos hj] at q
    exact q
  have hW12 : sc_2 5 (sc_1 X) 12 = if md_ic (X 118 0) = 0 then X 12 else (sp_wb (sp_on (sp_wa (X 10) (X 12) 5).2 5) (X 106 0) (X 8) (X 9) (X 11) (sp_wa (X 10) (X 12) 5).1 (sp_wa (X 10) (X 12) 5).2 5).2 := by
    unfold sc_2
    show (if md_ic (X 118 0) = 0 then sc_1 X else _) 12 = _
    split <;> rfl
  -- the state behind
  have eA1 : (sc_A v 6 z5 5 X).1 = sc_5 v (sc_4 v 6 z5 5 (sc_3 6 (sc_2 5 (sc_1 X)))).1 := rfl
  have eA2 : (sc_A v 6 z5 5 X).2 = (sc_4 v 6 z5 5 (sc_3 6 (sc_2 5 (sc_1 X)))).2 := rfl
  have zk4 : ∀ {k : Nat}, uC k → (sc_4 v 6 z5 5 (sc_3 6 (sc_2 5 (sc_1 X)))).1 k = sc_3 6 (sc_2 5 (sc_1 X)) k := fun h => sc_4_k v 6 z5 5 _ h
  have hZ5 : (sc_A v 6 z5 5 X).1 5 = tk_fill (X 2) (X 3) (X 4) (X 6) (X 5) 3 := by rw [eA1, sc_5_k _ _ (by decide), zk4 (by decide)]; exact hY5
  have hZ12 : (sc_A v 6 z5 5 X).1 12 = sc_2 5 (sc_1 X) 12 := by rw [eA1, sc_5_k _ _ (by decide), zk4 (by decide)]; exact hY12
  have hZ31 : (sc_A v 6 z5 5 X).1 31 = sc_3 6 (sc_2 5 (sc_1 X)) 31 := by rw [eA1, sc_5_k _ _ (by decide), zk4 (by decide)]
  have hZ101 : (sc_A v 6 z5 5 X).1 101 0 = nI (v + 1) := rfl
  have hZk : ∀ {k : Nat}, (uC k ∧ k ≠ 21 ∧ k ≠ 101 ∧ k ≠ 104) → (k ≠ 5 ∧ k ≠ 10 ∧ k ≠ 12 ∧ k ≠ 30 ∧ k ≠ 31) → (sc_A v 6 z5 5 X).1 k = X k := fun h1 h2 => by rw [eA1, sc_5_k _ _ h1.2, zk4 h1.1]; exact yk h2
  have hZc : ∀ {k : Nat}, (k ≠ 21 ∧ k ≠ 101 ∧ k ≠ 104) → (sc_A v 6 z5 5 X).1 k = (sc_4 v 6 z5 5 (sc_3 6 (sc_2 5 (sc_1 X)))).1 k := fun h => by rw [eA1]; exact sc_5_k _ _ h
  have m600 : (v + 1) % 600 = v + 1 := Nat.mod_eq_of_lt (by omega)
  obtain ⟨w1, ⟨mm, hmm, w2⟩, w3⟩ := I.wx
  have hZ21 : (sc_A v 6 z5 5 X).1 21 = upd (X 21) (v + 1) 0 := by
    show upd ((sc_4 v 6 z5 5 (sc_3 6 (sc_2 5 (sc_1 X)))).1 21) ((v + 1) % 600) 0 = _
    rw [zk4 (by decide), yk (by decide), m600]
  have hZ104 : (sc_A v 6 z5 5 X).1 104 0 = X 104 0 := by
    show (sc_4 v 6 z5 5 (sc_3 6 (sc_2 5 (sc_1 X)))).1 104 0 - (sc_4 v 6 z5 5 (sc_3 6 (sc_2 5 (sc_1 X)))).1 21 ((v + 1) % 600) = _
    rw [zk4 (by decide), zk4 (by decide), yk (by decide), yk (by decide), m600, w3 (v + 1) (by omega) (by omega), Int32.sub_zero]
  rw [← eA2] at hok hpr
  generalize hZ : (sc_A v 6 z5 5 X).1 = Z at *
  generalize hL : (sc_A v 6 z5 5 X).2 = ls at *
  generalize hZ4 : (sc_4 v 6 z5 5 (sc_3 6 (sc_2 5 (sc_1 X)))).1 = Q at *
  -- what the rules look at is what is there behind
  have hcl : ∀ j : Nat, j < 6 → cl_val Z j = cl_val (sc_2 5 (sc_1 X)) j := fun j _ => by
    unfold cl_val
    rw [hZk (k := 25) (by decide) (by decide), hZk (k := 26) (by decide) (by decide), hZ5, hZk (k := 19) (by decide) (by decide), hZk (k := 18) (by decide) (by decide), hZk (k := 100) (by decide) (by decide), hZ104, hZk (k := 23) (by decide) (by decide), hZk (k := 41) (by decide) (by decide), wk (k := 25) (by decide), wk (k := 26) (by decide), hW5, wk (k := 19) (by decide), wk (k := 18) (by decide), wk (k := 100) (by decide), wk (k := 104) (by decide), wk (k := 23) (by decide), wk (k := 41) (by decide)]
  have hlf : fs_A (sc_3 6 (sc_2 5 (sc_1 X))) 6 = if lf sad Z M (X 106 0) 6 0 = 6 then -1 else nI (lf sad Z M (X 106 0) 6 0) := by
    unfold fs_A
    rw [yk (k := 106) (by decide)]
    refine lf_eq (fun j hj => ?_) 6 0 rfl
    obtain ⟨-, -, r3, r4, r5, -, r7⟩ := I.rl.2.2.2 j hj
    refine im_eq (by rw [hZ31]) (by rw [yk (k := 29) (by decide)]; exact r5) (by rw [yk (k := 27) (by decide)]; exact r3) (by rw [yk (k := 28) (by decide)]; exact r4) (by rw [hcl j hj]; exact hY30 j hj) ?_
    rw [yk (k := 33) (by decide), yk (k := 34) (by decide)]
    exact wv_eq r7 (by omega)
  have hl6 := lf_le sad Z M (X 106 0) 6 0
  have ht : ∀ k : Nat, k < 3 → Z 5 k = tk_T (X 2) (X 3) (X 4) (X 6) (X 5) k := fun k hk => by rw [hZ5, fill_at, if_pos hk]
  obtain ⟨o1, o2, o3, o4, o5, o6, o7, o8, o9, o10, o11⟩ := hok
  rw [yk (k := 107) (by decide)] at o2
  rw [yk (k := 108) (by decide)] at o3
  rw [yk (k := 118) (by decide)] at o11
  have e118 : Z 118 = Q 118 := hZc (by decide)
  refine ⟨⟨?_, ?_, I.mk.of (hZk (by decide) (by decide)) (hZk (by decide) (by decide)), ?_, ?_, ?_, ?_, by omega, by have := I.le; omega⟩, ?_, ?_, ?_, o10⟩
  · -- tanks
    refine ⟨fun k hk => ?_, fun i => ?_, I.b47⟩
    · obtain ⟨t1, t2, t3, t4, t5, t6, t7, x, hx, t8⟩ := I.tk.1 k hk
      rw [hZk (k := 2) (by decide) (by decide), hZk (k := 3) (by decide) (by decide), hZk (k := 4) (by decide) (by decide), hZk (k := 6) (by decide) (by decide)]
      refine ⟨t1, t2, t3, t4, t5, t6, t7, ?_⟩
      rw [ht k hk]
      exact tk_num t1 t2 t3 t8 (pn_lt _ _ (by decide)) (pn_lt _ _ (by decide)) (pn_lt _ _ (by decide)) hx
    · rw [hZk (k := 6) (by decide) (by decide)]
      exact I.b6 i
  · -- steps
    obtain ⟨s1, s2, s3, s4, s5⟩ := I.sp
    obtain ⟨wa1, wa2⟩ := wa_at (X 10) (X 12) 5
    obtain ⟨wb1, wb2⟩ := wb_at (sp_on (sp_wa (X 10) (X 12) 5).2 5) (X 106 0) (X 8) (X 9) (X 11) (sp_wa (X 10) (X 12) 5).1 (sp_wa (X 10) (X 12) 5).2 5
    refine ⟨by rw [hZk (k := 102) (by decide) (by decide)]; exact s1, ?_, s3, by rw [hZk (k := 11) (by decide) (by decide)]; exact s4, ?_⟩
    · intro i
      rw [hZ12, hW12]
      split
      · exact s2 i
      · exact wb2 (wa2 s2) i
    · intro hm k hk ho
      rw [hZ12, hW12]
      by_cases hic : md_ic (X 118 0) = 0
      · rw [if_pos hic]
        exact s5 hm k hk ho
      · rw [if_neg hic]
        by_cases c45 : (sp_wb (sp_on (sp_wa (X 10) (X 12) 5).2 5) (X 106 0) (X 8) (X 9) (X 11) (sp_wa (X 10) (X 12) 5).1 (sp_wa (X 10) (X 12) 5).2 5).2 k = 45
        · exact Or.inl c45
        · refine Or.inr ((wb1 _).1 ?_)
          rcases (wb1 k).2 c45 with q | q
          · have q2 : ¬ X 12 k = 45 := fun w => q ((wa1 k).1 w)
            exact (wa1 _).2.1 ((s5 hm k hk ho).resolve_left q2)
          · obtain ⟨b, hb⟩ := s4 k hk ho
            rw [hb] at q
            have hp := pn_lt sad (24 + k) ho.1
            exact on_bit (by omega) q
  · -- rules
    exact I.rl.of (hZk (by decide) (by decide)) (hZk (by decide) (by decide)) (hZk (by decide) (by decide)) (hZk (by decide) (by decide)) (hZk (by decide) (by decide)) (hZk (by decide) (by decide)) (hZk (by decide) (by decide)) (hZk (by decide) (by decide)) (fun j hj => (I.rl.wv hj).of (hZk (by decide) (by decide)) (hZk (by decide) (by decide)) rfl)
  · -- wind, lightnings
    refine ⟨by rw [hZk (k := 100) (by decide) (by decide)]; exact w1, ⟨mm, hmm, by rw [hZ104]; exact w2⟩, fun j h1 h2 => ?_⟩
    rw [hZ21, pk_un (by omega)]
    exact w3 j (by omega) h2
  · -- the count
    unfold I_cn
    rw [hZ101, e118, hZc (k := 106) (by decide), hZc (k := 111) (by decide), hZc (k := 113) (by decide), hZc (k := 107) (by decide), hZc (k := 108) (by decide), hZc (k := 117) (by decide), hZc (k := 115) (by decide)]
    exact ⟨rfl, o1, ⟨oa, by omega, by rw [o2]; exact c3, c3m⟩, ⟨sb, by omega, by rw [o3]; exact c4, c4m⟩, o4, o5, o6, o7, o8⟩
  · -- the log
    refine I.tx.tell I.lv I.le hsg ?_ o10 (fun n hn => ?_)
    · exact (o9.of (by rw [yk (k := 119) (by decide)]) (by rw [yk (k := 118) (by decide)])).to (by rw [hZc (k := 119) (by decide)]) (by rw [e118])
    · rw [e118, show v + 1 + 2 * e = v + 2 * e + 1 by omega]
      exact o11 n _ hn
  · intro k hk
    rw [ht k hk]
    obtain ⟨-, -, -, t4, t5, t6, t7, -⟩ := I.tk.1 k hk
    unfold tk_T tr_f
    rw [t4, t5, t6, t7]
  · intro k hk
    rw [hZ31, hY31 k hk]
    split
    · exact Or.inl rfl
    · exact Or.inr rfl
  · -- the law's words
    obtain ⟨p1, p2, p3⟩ := hpr
    rw [yk (k := 118) (by decide)] at p1 p2 p3
    rw [yk (k := 109) (by decide), yk (k := 106) (by decide), yk (k := 107) (by decide), yk (k := 108) (by decide), yk (k := 25) (by decide), hlf] at p3
    unfold PX
    rw [e118, hZc (k := 109) (by decide), hZc (k := 106) (by decide), hZc (k := 111) (by decide), hZc (k := 112) (by decide), hZ101, c3m, c4m]
    rw [c3, c4] at p3
    refine ⟨p1, p2, fun hic => ?_⟩
    have c6' := c6 hic
    have f6 : ∀ f : Nat, f < 6 → ¬ nI f = -1 := fun f hf => nI_nneg (by omega) (by decide)
    rcases p3 hic with ⟨a1, a2, a3, a4⟩ | ⟨a1, a2⟩ | ⟨a1, a2, a3, a4, a5, a6⟩ | ⟨a1, a2, a3, a4, a5, a6⟩
    · refine Or.inl ⟨a1, a2, a3, ?_, ?_⟩
      · intro f hf hf6
        rw [hf, if_neg (by omega)] at a4
        rcases a4 with ⟨j, hj, b1, b2, b3⟩ | ⟨b1, -⟩
        · have ej : f = j := (nI_eq (by omega) (by omega)).mp b1
          subst ej
          rw [(I.rl.2.2.2 f hf6).1] at b2
          exact ⟨b2, b3⟩
        · exact absurd b1 (f6 f hf6)
      · intro hf
        rw [if_pos hf] at a4
        rcases a4 with ⟨j, hj, b1, -⟩ | ⟨-, b2, b3⟩
        · exact absurd b1.symm (f6 j hj)
        · refine ⟨b2, b3.imp id (fun q => ⟨q.1, q.2.1, Int32.not_le.mp q.2.2⟩)⟩
    · exact Or.inr (Or.inl ⟨a1, Int32.not_le.mp a2⟩)
    · refine Or.inr (Or.inr (Or.inl ⟨a1, a2, ?_, a4, a5, ?_⟩))
      · by_cases q : lf sad Z M (X 106 0) 6 0 = 6
        · exact q
        · rw [if_neg q] at a3
          exact absurd a3 (f6 _ (by omega))
      · rw [Int32.lt_iff_toInt_lt]
        have z1 : (-1 : Int32).toInt = -1 := rfl
        have : (X 106 0).toInt ≠ -1 := fun q => a6 (Int32.toInt_inj.mp q)
        omega
    · refine Or.inr (Or.inr (Or.inr ⟨a1, a2, ?_, a4, a5, ?_⟩))
      · by_cases q : lf sad Z M (X 106 0) 6 0 = 6
        · exact q
        · rw [if_neg q] at a3
          exact absurd a3 (f6 _ (by omega))
      · unfold inr at a6
        by_cases q1 : nI (v + 1) < nI oa
        · rw [if_pos q1] at a6
          exact absurd rfl a6
        · rw [if_neg q1] at a6
          by_cases q2 : nI sb < nI (v + 1)
          · rw [if_pos q2] at a6
            exact absurd rfl a6
          · exact ⟨Int32.not_lt.mp q1, Int32.not_lt.mp q2⟩
end
