/-! what each call keeps -/
section
variable {v z z5 z8 zs : Nat} {X M : XF} {J : Nat → Int64}
theorem Rel.x8 (h : Rel v z z5 z8 zs X M J) : X 102 0 = nI z8 := h.2.1.2.2.2.2.2.1
theorem Rel.m8 (h : Rel v z z5 z8 zs X M J) : M 113 0 = nI z8 := h.2.1.2.2.2.2.2.2.1
theorem Rel.l8 (h : Rel v z z5 z8 zs X M J) : z8 ≤ 16 := h.2.1.2.2.2.2.2.2.2.1
theorem Rel.ch12 (h : Rel v z z5 z8 zs X M J) : ∀ i, isCh (X 12 i) := h.2.1.2.2.2.2.2.2.2.2.1
theorem Rel.ch51 (h : Rel v z z5 z8 zs X M J) : ∀ i, isCh (M 51 i) := fun i => by rw [← h.2.1.2.2.2.2.1]; exact h.ch12 i
theorem Rel.x5 (h : Rel v z z5 z8 zs X M J) : X 103 0 = nI z5 := h.2.2.1.2.2.2.1
theorem Rel.m5 (h : Rel v z z5 z8 zs X M J) : M 114 0 = nI z5 := h.2.2.1.2.2.2.2.1
theorem Rel.l5 (h : Rel v z z5 z8 zs X M J) : z5 ≤ 6 := h.2.2.1.2.2.2.2.2.1
theorem Rel.r (h : Rel v z z5 z8 zs X M J) : R_rl z X M := h.2.2.2.2.2.2.2.2.2.1
theorem Rel.c0 (h : Rel v z z5 z8 zs X M J) : R_c0 v X M J := h.2.2.2.2.2.2.2.2.2.2.1
theorem Rel.c1 (h : Rel v z z5 z8 zs X M J) : R_c1 X M := h.2.2.2.2.2.2.2.2.2.2.2.1
theorem Rel.lv (h : Rel v z z5 z8 zs X M J) : v ≤ 100000 := h.2.2.2.2.2.2.2.2.2.2.2.2.1
theorem Rel.x6 (h : Rel v z z5 z8 zs X M J) : X 105 0 = nI z := h.r.2.2.2.2.2.2.2.1
theorem Rel.m6 (h : Rel v z z5 z8 zs X M J) : M 117 0 = nI z := h.r.2.2.2.2.2.2.2.2.1
theorem Rel.l6 (h : Rel v z z5 z8 zs X M J) : z ≤ 12 := h.r.2.2.2.2.2.2.2.2.2.1
theorem Rel.ch25 (h : Rel v z z5 z8 zs X M J) : ∀ i, isCh (X 25 i) := h.r.2.2.2.2.2.2.2.2.2.2.1
theorem Rel.ch63 (h : Rel v z z5 z8 zs X M J) : ∀ i, isCh (M 63 i) := fun i => by rw [← h.r.1]; exact h.ch25 i
theorem Rel.ox (h : Rel v z z5 z8 zs X M J) : ∀ j, j < z → okAb (X 25 j) (X 26 j) := h.r.2.2.2.2.2.2.2.2.2.2.2.1
theorem Rel.om (h : Rel v z z5 z8 zs X M J) : ∀ j, j < z → okAb (M 63 j) (M 64 j) := fun j hj => by rw [← h.r.1, ← h.r.2.1]; exact h.ox j hj
theorem Rel.bo6 (h : Rel v z z5 z8 zs X M J) : ∀ i, isBo (X 6 i) := h.1.2.2.2.2.2.1
theorem Rel.bo47 (h : Rel v z z5 z8 zs X M J) : ∀ i, isBo (M 47 i) := fun i => by rw [← h.1.2.2.2.2.1]; exact h.bo6 i
theorem Rel.e41 (h : Rel v z z5 z8 zs X M J) : X 41 = M 61 := h.2.2.2.2.2.2.2.1.1
theorem Rel.bo41 (h : Rel v z z5 z8 zs X M J) : ∀ i, isBo (X 41 i) := h.2.2.2.2.2.2.2.1.2
theorem Rel.bo61 (h : Rel v z z5 z8 zs X M J) : ∀ i, isBo (M 61 i) := fun i => by rw [← h.e41]; exact h.bo41 i
theorem Rel.e19 (h : Rel v z z5 z8 zs X M J) : X 19 = M 57 := h.2.2.2.1.2.1
theorem Rel.n57 (h : Rel v z z5 z8 zs X M J) : ∀ k : Nat, k < 3 → ¬ sn_cnt (M 57) k 3 = 0 := fun k hk => by rw [← h.e19]; exact h.2.2.2.1.2.2.2.2 k hk
theorem Rel.xs (h : Rel v z z5 z8 zs X M J) : M 116 0 = nI zs := h.2.2.2.2.2.1.1
theorem Rel.x1 (h : Rel v z z5 z8 zs X M J) : X 101 0 = nI v := h.c0.1
theorem Rel.m1 (h : Rel v z z5 z8 zs X M J) : M 101 0 = nI v := h.c0.2.1
theorem Rel.st (h : Rel v z z5 z8 zs X M J) : X 118 0 = M 102 0 := h.c0.2.2.1
theorem Rel.e5 (h : Rel v z z5 z8 zs X M J) : X 5 = M 46 := h.1.2.2.2.1
theorem Rel.e2 (h : Rel v z z5 z8 zs X M J) : X 2 = M 43 := h.1.1
theorem Rel.p5 (h : Rel v z z5 z8 zs X M J) : ∀ i : Nat, i < 3 → 0 ≤ (X 5 i).toInt := fun i _ => (h.1.2.2.2.2.2.2 i).2.2.2.1
theorem Rel.p46 (h : Rel v z z5 z8 zs X M J) : ∀ i : Nat, i < 3 → 0 ≤ (M 46 i).toInt := fun i hi => by rw [← h.e5]; exact h.p5 i hi
theorem Rel.le52 (h : Rel v z z5 z8 zs X M J) : ∀ i : Nat, i < 3 → X 5 i ≤ X 2 i := fun i _ => by
  rw [Int32.le_iff_toInt_le]
  exact (h.1.2.2.2.2.2.2 i).2.2.2.2
theorem stOk.ch {s : Int32} (h : stOk s) : isCh s := by
  unfold stOk at h
  rcases h with rfl | rfl | rfl | rfl | rfl | rfl | rfl <;> exact ⟨by decide, by decide⟩
theorem Rel.ch118 (h : Rel v z z5 z8 zs X M J) : isCh (X 118 0) := stOk.ch h.c0.2.2.2.2.2.2.2.2.2.2.2.2.1
theorem Rel.ch102 (h : Rel v z z5 z8 zs X M J) : isCh (M 102 0) := by rw [← h.st]; exact h.ch118
theorem Rel.ch111 (h : Rel v z z5 z8 zs X M J) : isCh (X 111 0) := h.c0.2.2.2.2.2.2.2.2.2.2.2.2.2.2.1
theorem Rel.ch113 (h : Rel v z z5 z8 zs X M J) : isCh (X 113 0) := h.c0.2.2.2.2.2.2.2.2.2.2.2.2.2.2.2.1
theorem Rel.ch107 (h : Rel v z z5 z8 zs X M J) : isCh (M 107 0) := h.c0.2.2.2.2.2.2.2.2.2.2.2.2.2.2.2.2.1
theorem Rel.ch109 (h : Rel v z z5 z8 zs X M J) : isCh (M 109 0) := h.c0.2.2.2.2.2.2.2.2.2.2.2.2.2.2.2.2.2
theorem Rel.okS (h : Rel v z z5 z8 zs X M J) : okS v z z5 z8 X := ⟨h.x1, h.x8, h.x5, h.x6, h.ch113, h.ch25, h.ox⟩
theorem Rel.okM (h : Rel v z z5 z8 zs X M J) : okM v z zs z5 z8 M := ⟨h.m1, h.m8, h.m5, h.m6, h.xs, h.ch107, h.ch109, h.ch63, h.om, h.n57⟩
theorem Rel.thr (h : Rel v z z5 z8 zs X M J) (e : Int32) : Rel v z z5 z8 zs X (si M 100 e) J := h
end
/-- how much a run of seconds tells -/
theorem ps_s1 (z z5 z8 v : Nat) (X : XF) (K : KF) : ∀ i, sd 1 (ps_K z z5 z8 v X K i) = sd 1 K ∧ rsK (ps_K z z5 z8 v X K i) = rsK K
  | 0 => ⟨rfl, rfl⟩
  | i + 1 => by
    have ih := ps_s1 z z5 z8 v X K i
    show sd 1 (kLs _ 0 _ _) = _ ∧ rsK (kLs _ 0 _ _) = _
    rw [sd_ls01, rs_ls 0 (by omega)]
    exact ih
theorem ps_pot {z z5 z8 v L : Nat} {X : XF} {K : KF} (hL : (K.2.2.1 0).length ≤ 8 * L) : ∀ i, v + i ≤ 100000 → ∃ L', ((ps_K z z5 z8 v X K i).2.2.1 0).length ≤ 8 * L' ∧ L' + ci (ps_X z z5 z8 v X i 118 0) ≤ L + ci (X 118 0) + i
  | 0, _ => ⟨L, hL, Nat.le_refl _⟩
  | i + 1, hi => by
    obtain ⟨L', h1, h2⟩ := ps_pot (z := z) (z5 := z5) (z8 := z8) (v := v) (X := X) hL i (by omega)
    have pt := sc_pot (v + i) z z5 z8 (ps_X z z5 z8 v X i)
    have el := ls_len (v := v + i) (by omega) (sc_A (v + i) z z5 z8 (ps_X z z5 z8 v X i)).2 (sd 0 (ps_K z z5 z8 v X K i))
    have e0 : sd 0 (ps_K z z5 z8 v X K (i + 1)) = lsT (sd 0 (ps_K z z5 z8 v X K i)) (v + i) (sc_A (v + i) z z5 z8 (ps_X z z5 z8 v X i)).2 := by
      show sd 0 (kLs _ 0 _ _) = _
      rw [sd_ls0]
    have eT : (ps_K z z5 z8 v X K (i + 1)).2.2.1 0 = (lsT (sd 0 (ps_K z z5 z8 v X K i)) (v + i) (sc_A (v + i) z z5 z8 (ps_X z z5 z8 v X i)).2).1 := congrArg Prod.fst e0
    have lb : (sd 0 (ps_K z z5 z8 v X K i)).1.length = ((ps_K z z5 z8 v X K i).2.2.1 0).length := rfl
    have eX : ps_X z z5 z8 v X (i + 1) 118 0 = (sc_A (v + i) z z5 z8 (ps_X z z5 z8 v X i)).1 118 0 := rfl
    refine ⟨L' + (sc_A (v + i) z z5 z8 (ps_X z z5 z8 v X i)).2.length, ?_, ?_⟩
    · rw [eT]
      omega
    · rw [eX]
      omega
theorem R45.ps {z z5 z8 v zs : Nat} {X M : XF} {K K2 : KF} (h : Rel v z z5 z8 zs X M K2.1) (h5 : R45 X) (ht : R_t (K.2.2.1 0) X) (hs : sd 0 K = sd 1 K2) (hk : okT (sd 0 K)) {L : Nat} (hL : (K.2.2.1 0).length ≤ 8 * L) (hp : L + ci (X 118 0) ≤ v + 2100) : ∀ i, v + i ≤ 100000 → R45 (ps_X z z5 z8 v X i)
  | 0, _ => h5
  | i + 1, hi => by
    have ih := R45.ps h h5 ht hs hk hL hp i (by omega)
    obtain ⟨a1, -, -, -, -, -, -, -, a10⟩ := pass_eq h ht hs hk hL hp i (by omega)
    have hJ : (gs_P z zs z5 z8 v M K2 i).2.1 = K2.1 := by
      have q := congrArg Prod.fst a10
      exact q
    exact ih.second (second_eq (K := (gs_P z zs z5 z8 v M K2 i).2) (by rw [hJ]; exact a1) (show v + i < 100000 by omega)).2.1
/-- what holds between the calls: c of them have been made -/
def Inv (c v z z5 z8 zs : Nat) (X M : XF) (K : KF) : Prop := Rel v z z5 z8 zs X M K.1 ∧ sd 0 K = sd 1 K ∧ okT (sd 0 K) ∧ R_t (K.2.2.1 0) X ∧ (∃ L, (K.2.2.1 0).length ≤ 8 * L ∧ L + ci (X 118 0) ≤ v + 2 * c) ∧ R45 X ∧ zs ≤ c ∧ zs ≤ K.2.1 2 ∧ stN (K.2.1 2)
def rmO (c : Nat) (K : KF) (k n : Nat) : Prop := k ≤ 100 + 2 * c + (K.2.1 4 + K.2.1 5) ∧ n ≤ 2000 + 520 * c + (K.2.1 6 + K.2.1 7)
theorem okT.num {s : TS} (h : okT s) (hl : s.1.length ≤ 808192) : 16 ≤ s.2.1 ∧ s.2.1 ≤ 1616384 ∧ s.2.2.1 ≤ 16 ∧ s.2.2.2 ≤ 3232768 := by
  obtain ⟨h1, h2, h3, h4, h5⟩ := h
  have hc : s.2.1 ≤ 1616384 := by omega
  refine ⟨h1, hc, ?_, by omega⟩
  rcases Nat.lt_or_ge 16 s.2.2.1 with q | q
  · have e := Nat.pow_le_pow_right (show 0 < 2 by decide) (show 17 ≤ s.2.2.1 from q)
    have e2 : (2 : Nat) ^ 17 = 131072 := by decide
    rw [e2] at e
    generalize 2 ^ s.2.2.1 = y at e h5
    omega
  · exact q
theorem stN.le {N : Nat} (h : stN N) : N ≤ 512 := by unfold stN at h; omega
section
variable {c v z z5 z8 zs : Nat} {X M : XF} {K : KF}
theorem Inv.rel (I : Inv c v z z5 z8 zs X M K) : Rel v z z5 z8 zs X M K.1 := I.1
theorem Inv.r45 (I : Inv c v z z5 z8 zs X M K) : R45 X := I.2.2.2.2.2.1
theorem Inv.rt (I : Inv c v z z5 z8 zs X M K) : R_t (K.2.2.1 0) X := I.2.2.2.1
theorem Inv.zc (I : Inv c v z z5 z8 zs X M K) : zs ≤ c := I.2.2.2.2.2.2.1
theorem Inv.zk (I : Inv c v z z5 z8 zs X M K) : zs ≤ K.2.1 2 := I.2.2.2.2.2.2.2.1
theorem Inv.sN (I : Inv c v z z5 z8 zs X M K) : stN (K.2.1 2) := I.2.2.2.2.2.2.2.2
theorem Inv.k2 (I : Inv c v z z5 z8 zs X M K) : K.2.1 2 < 2 ^ 31 := Nat.lt_of_le_of_lt I.sN.le (by decide)
theorem Inv.t01 (I : Inv c v z z5 z8 zs X M K) : K.2.2.1 0 = K.2.2.1 1 := congrArg Prod.fst I.2.1
theorem Inv.len (I : Inv c v z z5 z8 zs X M K) (hc : c ≤ 512) : (K.2.2.1 0).length ≤ 808192 := by
  obtain ⟨L, h1, h2⟩ := I.2.2.2.2.1
  have := I.rel.lv
  omega
theorem Inv.num (I : Inv c v z z5 z8 zs X M K) (hc : c ≤ 512) : (16 ≤ K.2.1 0 ∧ K.2.1 0 ≤ 1616384 ∧ K.2.1 4 ≤ 16 ∧ K.2.1 6 ≤ 3232768) ∧ 16 ≤ K.2.1 1 ∧ K.2.1 1 ≤ 1616384 ∧ K.2.1 5 ≤ 16 ∧ K.2.1 7 ≤ 3232768 := by
  have n0 := okT.num I.2.2.1 (I.len hc)
  have e := I.2.1
  refine ⟨n0, ?_⟩
  rw [e] at n0
  exact n0
theorem Inv.keep (I : Inv c v z z5 z8 zs X M K) {z' z5' z8' zs' : Nat} {X' M' : XF} {K' : KF} (hr : Rel v z' z5' z8' zs' X' M' K'.1) (h1 : X' 119 0 = X 119 0) (h2 : X' 118 0 = X 118 0) (h3 : X' 106 0 = X 106 0) (s0 : sd 0 K' = sd 0 K) (s1 : sd 1 K' = sd 1 K) (h4 : zs' ≤ c + 1) (h5 : zs' ≤ K'.2.1 2) (h6 : stN (K'.2.1 2)) : Inv (c + 1) v z' z5' z8' zs' X' M' K' := by
  obtain ⟨i1, i2, i3, i4, ⟨L, i5, i6⟩, i7, i8, i9, i10⟩ := I
  have e0 : K'.2.2.1 0 = K.2.2.1 0 := congrArg Prod.fst s0
  refine ⟨hr, by rw [s0, s1, i2], by rw [s0]; exact i3, ?_, ⟨L, by rw [e0]; exact i5, by rw [h2]; omega⟩, fun q => by rw [h3]; exact i7 (h2 ▸ q), h4, h5, h6⟩
  rw [e0]
  exact ⟨by rw [h1]; exact i4.1, by rw [h2]; exact i4.2.1, i4.2.2⟩
theorem Inv.stay (I : Inv c v z z5 z8 zs X M K) {z' z5' z8' : Nat} {X' M' : XF} (w : Int64) (hr : Rel v z' z5' z8' zs X' M' K.1) (h1 : X' 119 0 = X 119 0) (h2 : X' 118 0 = X 118 0) (h3 : X' 106 0 = X 106 0) : Inv (c + 1) v z' z5' z8' zs X' M' (kO K w) := I.keep (K' := kO K w) hr h1 h2 h3 rfl rfl (by have := I.zc; omega) I.zk I.sN
theorem Inv.stayD (I : Inv c v z z5 z8 zs X M K) (w : UInt64) (e : Int32) : Inv (c + 1) v z z5 z8 zs X (si M 100 e) (kD K w) := I.keep (K' := kD K w) (I.rel.thr e) rfl rfl rfl rfl rfl (by have := I.zc; omega) I.zk I.sN
theorem Inv.no (I : Inv c v z z5 z8 zs X M K) (e : Int32) : Inv (c + 1) v z z5 z8 zs X (si M 100 e) K := I.keep (K' := K) (I.rel.thr e) rfl rfl rfl rfl rfl (by have := I.zc; omega) I.zk I.sN
theorem Inv.same (I : Inv c v z z5 z8 zs X M K) : Inv (c + 1) v z z5 z8 zs X M K := I.keep (K' := K) I.rel rfl rfl rfl rfl rfl (by have := I.zc; omega) I.zk I.sN
/-- a call that tells one letter -/
theorem Inv.tell (I : Inv c v z z5 z8 zs X M K) (hc : c < 512) {X' M' : XF} {K' : KF} {ls : List Nat} (hr : Rel v z z5 z8 zs X' M' K'.1) (hl : ltOk ls X X') (hg : ∀ d ∈ ls, sgn d) (hp : ls.length + ci (X' 118 0) ≤ 2 + ci (X 118 0)) (h45 : R45 X') (s0 : sd 0 K' = lsT (sd 0 K) v ls) (s1 : sd 1 K' = lsT (sd 1 K) v ls) (h2 : K'.2.1 2 = K.2.1 2) : Inv (c + 1) v z z5 z8 zs X' M' K' := by
  obtain ⟨i1, i2, i3, i4, ⟨L, i5, i6⟩, i7, i8, i9, i10⟩ := I
  have hv := i1.lv
  have e0 : K'.2.2.1 0 = (lsT (sd 0 K) v ls).1 := congrArg Prod.fst s0
  have el := ls_len (v := v) (by omega) ls (sd 0 K)
  have lb : (sd 0 K).1.length = (K.2.2.1 0).length := rfl
  refine ⟨hr, by rw [s0, s1, i2], by rw [s0]; exact okT.ls (by omega) _ i3, ?_, ⟨L + ls.length, by rw [e0]; omega, by omega⟩, h45, by omega, by rw [h2]; exact i9, by rw [h2]; exact i10⟩
  rw [e0]
  exact R_t.ls (s := sd 0 K) i4 (by omega) hl hg (by omega)
end
/-! rules: the kinds on both sides -/
set_option maxRecDepth 100000 in
theorem kz_j : ∀ j, j < 256 → ((kx (nI j).toInt8.toInt32 6 0 < 0) ↔ ¬ (nI j = 116 ∨ nI j = 115 ∨ nI j = 119 ∨ nI j = 108 ∨ nI j = 98 ∨ nI j = 103)) := by decide +kernel
theorem kz_iff (p : Int32) : kz p < 0 ↔ ¬ (p = 116 ∨ p = 115 ∨ p = 119 ∨ p = 108 ∨ p = 98 ∨ p = 103) := by
  unfold kz
  by_cases h : inr 0 255 p = 0
  · rw [if_pos h]
    refine ⟨fun _ q => ?_, fun _ => by decide⟩
    rcases q with rfl | rfl | rfl | rfl | rfl | rfl <;> exact absurd h (by decide)
  · rw [if_neg h]
    have hb := inr_iff.mp h
    have z0 : (0 : Int32).toInt = 0 := rfl
    have z1 : (255 : Int32).toInt = 255 := rfl
    obtain ⟨j, hj, rfl⟩ := nI_of (x := p) (by rw [Int32.lt_iff_toInt_lt]; omega)
    rw [nI_toInt hj] at hb
    exact kz_j j (by omega)
theorem cd_rule {z : Nat} (hz : z ≤ 12) (p1 p2 p3 p4 p5 : Int32) : xk_rule (nI z) p1 p2 p3 p4 p5 = xs_rule (nI z) p1 p2 p3 p4 p5 := by
  have e12 : (if nI z < 12 then (0 : Int32) else 2) = (if nI z = 12 then 2 else 0) := by
    rw [show (12 : Int32) = nI 12 from rfl]
    by_cases h : z = 12
    · subst h; decide
    · have h1 : nI z < nI 12 := by rw [Int32.lt_iff_toInt_lt, nI_toInt (by omega), nI_toInt (by decide)]; omega
      have h2 : ¬ nI z = nI 12 := fun q => h ((nI_eq (by omega) (by decide)).mp q)
      rw [if_pos h1, if_neg h2]
  unfold xk_rule xs_rule
  rw [kin p5 0 300 k64_0 k64_300, e12]
  by_cases hk : kz p1 < 0
  · have hn := (kz_iff p1).mp hk
    have ht : isTh p1 p2 = 0 := by
      unfold isTh
      rw [if_neg (fun q => hn (Or.inl q)), if_neg (fun q => hn (Or.inr (Or.inl q))), if_neg (fun q => hn (by simp [q])), if_neg (fun q => hn (by simp [q])), if_neg (fun q => hn (by simp [q])), if_neg (fun q => hn (by simp [q]))]
    rw [if_pos ht, if_pos hk]
  · have hy : p1 = 116 ∨ p1 = 115 ∨ p1 = 119 ∨ p1 = 108 ∨ p1 = 98 ∨ p1 = 103 := Classical.byContradiction fun q => hk ((kz_iff p1).mpr q)
    have ht : isTh p1 p2 = ab_ok p1 p2 := by
      unfold isTh ab_ok
      rcases hy with h | h | h | h | h | h
      · rw [if_pos h, if_pos h]
        exact (kbel p2 2 3 (by decide) k64_2).symm
      · have n1 : ¬ p1 = 116 := by rw [h]; decide
        rw [if_neg n1, if_pos h, if_neg n1, if_pos h]
        exact (kbel p2 2 3 (by decide) k64_2).symm
      · have n1 : ¬ p1 = 116 := by rw [h]; decide
        have n2 : ¬ p1 = 115 := by rw [h]; decide
        have n3 : ¬ p1 = 103 := by rw [h]; decide
        rw [if_neg n1, if_neg n2, if_neg n3, if_pos h, if_neg n1, if_neg n2, if_neg n3]
      · have n1 : ¬ p1 = 116 := by rw [h]; decide
        have n2 : ¬ p1 = 115 := by rw [h]; decide
        have n3 : ¬ p1 = 103 := by rw [h]; decide
        have n4 : ¬ p1 = 119 := by rw [h]; decide
        rw [if_neg n1, if_neg n2, if_neg n3, if_neg n4, if_pos h, if_neg n1, if_neg n2, if_neg n3]
      · have n1 : ¬ p1 = 116 := by rw [h]; decide
        have n2 : ¬ p1 = 115 := by rw [h]; decide
        have n3 : ¬ p1 = 103 := by rw [h]; decide
        have n4 : ¬ p1 = 119 := by rw [h]; decide
        have n5 : ¬ p1 = 108 := by rw [h]; decide
        rw [if_neg n1, if_neg n2, if_neg n3, if_neg n4, if_neg n5, if_pos h, if_neg n1, if_neg n2, if_neg n3]
      · have n1 : ¬ p1 = 116 := by rw [h]; decide
        have n2 : ¬ p1 = 115 := by rw [h]; decide
        rw [if_neg n1, if_neg n2, if_pos h, if_neg n1, if_neg n2, if_pos h]
        exact (kbel p2 5 6 (by decide) k64_5).symm
    rw [if_neg hk, ht]
theorem cd_strike (p : Int32) : (xk_w 0 99 p = 0) = ¬ (lin p.toInt64 0 99 = 0) := by
  unfold xk_w
  rw [kin p 0 99 k64_0 k64_99, ni_0]
theorem th_of {z : Nat} {p1 p2 p3 p4 p5 : Int32} (hz : z ≤ 12) (h : xk_rule (nI z) p1 p2 p3 p4 p5 = 0) : ¬ isTh p1 p2 = 0 ∧ z < 12 := by
  unfold xk_rule at h
  have h1 : ¬ isTh p1 p2 = 0 := fun q => by rw [if_pos q] at h; exact absurd h (by decide)
  rw [if_neg h1] at h
  refine ⟨h1, ?_⟩
  split at h
  · exact absurd h (by decide)
  · split at h
    · exact absurd h (by decide)
    · split at h
      · rename_i q
        rw [show (12 : Int32) = nI 12 from rfl, Int32.lt_iff_toInt_lt, nI_toInt (by omega), nI_toInt (by decide)] at q
        omega
      · exact absurd h (by decide)
/-! the calls that tell, the lightning -/
section
variable {c v z z5 z8 zs : Nat} {X M : XF} {K : KF}
theorem rs_1 {K K' : KF} (h : rsK K' = rsK K) : K'.1 = K.1 := by
  have q := congrArg Prod.fst h
  exact q
theorem rs_2 {K K' : KF} (h : rsK K' = rsK K) : K'.2.1 2 = K.2.1 2 := by
  have q := congrArg (fun q => q.2.1) h
  exact q
theorem rs_o {K K' : KF} (h : rsK K' = rsK K) : K'.2.2.2 = K.2.2.2 := by
  have q := congrArg (fun q => q.2.2.2) h
  exact q
theorem iv_begin (I : Inv c v z z5 z8 zs X M K) (hc : c < 512) (p1 p2 p3 : Int32) (hk : xk_begin (X 118 0) p1 p2 p3 = 0) (w : Int64) : X 101 0 - p1 = M 101 0 - p1 ∧ Inv (c + 1) v z z5 z8 zs (bg_X z z8 p1 p2 p3 X) (mb_M z8 p1 M) (kLs (mb_K M (kO (kLs K 0 v [67]) w) p2 p3) 1 v [67]) := by
  obtain ⟨o1, o2, o3, o4⟩ := o_begin I.rel p1 p2 p3 hk
  have r0 := rs_ls 0 (by omega) v [67] K
  have r1 := rs_ls 1 (by omega) v [67] (mb_K M (kO (kLs K 0 v [67]) w) p2 p3)
  have e1 : (kLs (mb_K M (kO (kLs K 0 v [67]) w) p2 p3) 1 v [67]).1 = sl (sl K.1 0 ((M 101 0).toInt64 + p2.toInt64)) 1 ((M 101 0).toInt64 + p3.toInt64) := by
    rw [rs_1 r1]
    show sl (sl (kLs K 0 v [67]).1 0 _) 1 _ = _
    rw [rs_1 r0]
  refine ⟨o1, I.tell hc (ls := [67]) (by rw [e1]; exact o2) o3 (fun d hd => by rw [List.mem_singleton.mp hd]; exact ⟨by decide, by decide⟩) (by have := ci_le (bg_X z z8 p1 p2 p3 X 118 0); show 1 + _ ≤ _; omega) (fun q => absurd q (r45_lt o3 (by simp))) ?_ ?_ ?_⟩
  · rw [sd_ls10]
    show sd 0 (kLs K 0 v [67]) = _
    rw [sd_ls0]
  · rw [sd_ls1]
    show lsT (sd 1 (kLs K 0 v [67])) v [67] = _
    rw [sd_ls01]
  · rw [rs_2 r1]
    show (kLs K 0 v [67]).2.1 2 = _
    rw [rs_2 r0]
theorem iv_rec (I : Inv c v z z5 z8 zs X M K) (hc : c < 512) (p1 : Int32) (hk : xk_rec (X 14) z5 (X 118 0) (X 106 0) p1 = 0) (w : Int64) : sp_undoN (X 8) (X 12) (X 14 p1.toNatClampNeg) z8 = gr_n (M 48) (M 51) (M 53 p1.toNatClampNeg) z8 ∧ Inv (c + 1) v z z5 z8 zs (rc_X z z8 p1.toNatClampNeg X) (mr_M z8 p1.toNatClampNeg M) (kLs (kO (kLs K 0 v [82]) w) 1 v [82]) := by
  obtain ⟨o1, o2, o3, o4⟩ := o_rec I.rel p1 hk
  have r0 := rs_ls 0 (by omega) v [82] K
  have r1 := rs_ls 1 (by omega) v [82] (kO (kLs K 0 v [82]) w)
  have e1 : (kLs (kO (kLs K 0 v [82]) w) 1 v [82]).1 = K.1 := (rs_1 r1).trans (show (kLs K 0 v [82]).1 = K.1 from rs_1 r0)
  refine ⟨o1, I.tell hc (ls := [82]) (by rw [e1]; exact o2) o3 (fun d hd => by rw [List.mem_singleton.mp hd]; exact ⟨by decide, by decide⟩) (by have := ci_le (rc_X z z8 p1.toNatClampNeg X 118 0); show 1 + _ ≤ _; omega) (fun q => absurd q (r45_lt o3 (by simp))) ?_ ?_ ?_⟩
  · rw [sd_ls10]
    show sd 0 (kLs K 0 v [82]) = _
    rw [sd_ls0]
  · rw [sd_ls1]
    show lsT (sd 1 (kLs K 0 v [82])) v [82] = _
    rw [sd_ls01]
  · rw [rs_2 r1]
    show (kLs K 0 v [82]).2.1 2 = _
    rw [rs_2 r0]
theorem iv_scrub (I : Inv c v z z5 z8 zs X M K) (hc : c < 512) : (if md_ic (X 118 0) = 0 then (0 : Int32) else 1) = md_ic (M 102 0) ∧ Inv (c + 1) v z z5 z8 zs (sb_A X).1 (ms_A M).1 (kLs (kLs K 0 v (sb_A X).2) 1 v (ms_A M).2) := by
  obtain ⟨o1, o2, o3, o4, o5, o6⟩ := o_scrub I.rel
  have r0 := rs_ls 0 (by omega) v (sb_A X).2 K
  have r1 := rs_ls 1 (by omega) v (ms_A M).2 (kLs K 0 v (sb_A X).2)
  have e1 : (kLs (kLs K 0 v (sb_A X).2) 1 v (ms_A M).2).1 = K.1 := (rs_1 r1).trans (rs_1 r0)
  refine ⟨o1, I.tell hc (ls := (sb_A X).2) (by rw [e1]; exact o2) o4 o5 (by omega) ?_ ?_ ?_ ?_⟩
  · intro q
    by_cases hn : (sb_A X).2 = []
    · have e : (sb_A X).1 = X := by
        unfold sb_A at hn ⊢
        split at hn
        · rename_i h; rw [if_pos h]
        · cases hn
      rw [e] at q ⊢
      exact I.r45 q
    · exact absurd q (r45_lt o4 hn)
  · rw [sd_ls10, sd_ls0]
  · rw [sd_ls1, sd_ls01, o3]
  · rw [rs_2 r1, rs_2 r0]
theorem iv_pass (I : Inv c v z z5 z8 zs X M K) (hc : c < 512) (i : Nat) (hi : v + i ≤ 100000) (w : Int64) : Inv (c + 1) (v + i) z z5 z8 zs (ps_X z z5 z8 v X i) (gs_P z zs z5 z8 v (si M 100 0) (kO (ps_K z z5 z8 v X K i) w) i).1 (gs_P z zs z5 z8 v (si M 100 0) (kO (ps_K z z5 z8 v X K i) w) i).2 := by
  obtain ⟨i1, i2, i3, i4, ⟨L, i5, i6⟩, i7, i8, i9, i10⟩ := id I
  have s1 := ps_s1 z z5 z8 v X K i
  have hJ : (kO (ps_K z z5 z8 v X K i) w).1 = K.1 := show (ps_K z z5 z8 v X K i).1 = K.1 from rs_1 s1.2
  have hR : Rel v z z5 z8 zs X (si M 100 0) (kO (ps_K z z5 z8 v X K i) w).1 := by rw [hJ]; exact i1.thr 0
  have hs : sd 0 K = sd 1 (kO (ps_K z z5 z8 v X K i) w) := i2.trans s1.1.symm
  obtain ⟨a1, a2, a3, a4, a5, a6, a7, a8, a9⟩ := pass_eq hR i4 hs i3 i5 (by omega) i hi
  obtain ⟨L', b1, b2⟩ := ps_pot (z := z) (z5 := z5) (z8 := z8) (v := v) (X := X) i5 i hi
  have h45 := R45.ps hR i7 i4 hs i3 i5 (by omega) i hi
  have e0 : sd 0 (gs_P z zs z5 z8 v (si M 100 0) (kO (ps_K z z5 z8 v X K i) w) i).2 = sd 0 (ps_K z z5 z8 v X K i) := a7
  have eT := congrArg Prod.fst e0
  have e2 : (gs_P z zs z5 z8 v (si M 100 0) (kO (ps_K z z5 z8 v X K i) w) i).2.2.1 2 = K.2.1 2 := (rs_2 a9).trans (show (ps_K z z5 z8 v X K i).2.1 2 = K.2.1 2 from rs_2 s1.2)
  refine ⟨by rw [rs_1 a9]; exact a1, by rw [e0]; exact a2, by rw [e0]; exact a4, ?_, ⟨L', ?_, by omega⟩, h45, by omega, by rw [e2]; exact i9, by rw [e2]; exact i10⟩
  · show R_t (sd 0 (gs_P z zs z5 z8 v (si M 100 0) (kO (ps_K z z5 z8 v X K i) w) i).2).1 _
    rw [e0]
    exact a3
  · show (sd 0 (gs_P z zs z5 z8 v (si M 100 0) (kO (ps_K z z5 z8 v X K i) w) i).2).1.length ≤ _
    rw [e0]
    exact b1
theorem iv_strike (I : Inv c v z z5 z8 zs X M K) (hc : c < 512) (p1 : Int32) (hk : xk_w 0 99 p1 = 0) (w : Int64) {r : Int32} {M1 : XF} {K1 : KF} (hp : st_post M (kO K w) p1 zs r M1 K1) : (if 20 < p1 then X 104 0 else X 104 0 + 1) = r ∧ M1 100 0 = 0 ∧ K1.2.2.2 = (kO K w).2.2.2 ∧ ((K1.2.1 4 = K.2.1 4 ∧ K1.2.1 5 = K.2.1 5) ∧ K1.2.1 6 = K.2.1 6 ∧ K1.2.1 7 = K.2.1 7) ∧ ∃ zs', Inv (c + 1) v z z5 z8 zs' (if 20 < p1 then X else si (sa X 21 (upd (X 21) (v % 600) (X 21 (v % 600) + 1))) 104 (X 104 0 + 1)) M1 K1 := by
  have hl : ¬ lin p1.toInt64 0 99 = 0 := (cd_strike p1).mp hk
  unfold st_post at hp
  rw [if_neg hl] at hp
  by_cases h20 : 20 < p1
  · rw [if_pos h20] at hp
    obtain ⟨hr, hM, hK⟩ := hp
    subst hM hK
    rw [if_pos h20, if_pos h20]
    exact ⟨(q_near I.rel).trans hr.symm, rfl, rfl, ⟨⟨rfl, rfl⟩, rfl, rfl⟩, zs, I.stay w (I.rel.thr 0) rfl rfl rfl⟩
  · rw [if_neg h20] at hp
    obtain ⟨N, q, f, hN, hz, hf, hfz, hM, hK, hr⟩ := hp
    subst hM hK
    rw [if_neg h20, if_neg h20]
    have hzc := I.zc
    have hRel : Rel v z z5 z8 (zs + 1) (si (sa X 21 (upd (X 21) (v % 600) (X 21 (v % 600) + 1))) 104 (X 104 0 + 1)) (si (sa (si M 100 0) 58 f) 116 (nI zs + 1)) K.1 := by
      obtain ⟨t1, t2, t3, t4, t5, t6, t7, t8, t9, t10, t11, t12, t13, t14⟩ := id I.rel
      exact ⟨t1, t2, t3, t4, t5, li_strike t6 rfl rfl (by show nI zs + 1 = M 116 0 + 1; rw [I.rel.xs]) hf (hfz.trans I.rel.m1), t7, t8, t9, t10, t11, t12, t13, by omega⟩
    exact ⟨(q_near hRel).trans hr.symm, rfl, rfl, ⟨⟨rfl, rfl⟩, rfl, rfl⟩, zs + 1, I.keep (K' := sg_K (kO K w) N q) hRel rfl rfl rfl rfl rfl (by omega) hz hN⟩
end
