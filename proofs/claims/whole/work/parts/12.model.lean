/-! the reference, as numbers -/
def lin (v lo hi : Int64) : Int32 := if v < lo then 0 else if hi < v then 0 else 1
theorem lin_bo (v lo hi : Int64) : isBo (lin v lo hi) := by
  unfold lin
  split
  · exact isBo_0
  · split
    · exact isBo_0
    · exact isBo_1
theorem lin_ix {p : Int32} {b : Int64} {n : Nat} (hb : b.toInt < n) (hn : n < 2 ^ 31) (h : ¬ lin p.toInt64 0 b = 0) : ∃ j : Nat, j < n ∧ p = nI j := by
  unfold lin at h
  by_cases h1 : p.toInt64 < 0
  · simp [h1] at h
  · by_cases h2 : b < p.toInt64
    · simp [h1, h2] at h
    · rw [Int64.lt_iff_toInt_lt, Int32.toInt_toInt64] at h1 h2
      have z : (0 : Int64).toInt = 0 := rfl
      have hp : ¬ p < 0 := by
        rw [Int32.lt_iff_toInt_lt]
        have z2 : (0 : Int32).toInt = 0 := rfl
        omega
      obtain ⟨j, hj, ej⟩ := nI_of hp
      refine ⟨j, ?_, ej⟩
      rw [ej, nI_toInt hj] at h2
      omega
theorem md_r0 {r p : Int32} (h : r = (if p = 0 then 0 else 1)) (c : r = 0) : p = 0 := by
  by_cases q : p = 0
  · exact q
  · rw [if_neg q] at h
    rw [h] at c
    exact absurd c (by decide)
theorem md_r1 {r p : Int32} (h : r = (if p = 0 then 0 else 1)) (c : ¬ r = 0) : ¬ p = 0 := fun q => c (by rw [h, if_pos q])
def md_nt (p : Int32) : Int32 := if lin p.toInt64 0 2 = 0 then 1 else 0
def md_no (p s : Int32) : Int32 := if lin p.toInt64 0 (s - 1).toInt64 = 0 then 1 else 0
def md_nc (p : Int32) : Int32 := if lin p.toInt64 0 5 = 0 then 1 else 0
theorem md_nt_ix {p : Int32} (h : md_nt p = 0) : ∃ j : Nat, j < 3 ∧ p = nI j := lin_ix (b := 2) (n := 3) (by decide) (by decide) (fun q => by rw [md_nt, if_pos q] at h; exact absurd h (by decide))
theorem md_nc_ix {p : Int32} (h : md_nc p = 0) : ∃ j : Nat, j < 6 ∧ p = nI j := lin_ix (b := 5) (n := 6) (by decide) (by decide) (fun q => by rw [md_nc, if_pos q] at h; exact absurd h (by decide))
theorem md_no_ix {p s : Int32} {z : Nat} (hz : s = nI z) (hzl : z ≤ 16) (h : md_no p s = 0) : ∃ j : Nat, j < z ∧ p = nI j := by
  refine lin_ix (b := (s - 1).toInt64) (n := z) ?_ (by omega) (fun q => by rw [md_no, if_pos q] at h; exact absurd h (by decide))
  rw [Int32.toInt_toInt64, hz]
  by_cases h0 : z = 0
  · subst h0; decide
  · obtain ⟨k, rfl⟩ : ∃ k, z = k + 1 := ⟨z - 1, by omega⟩
    rw [nI_pred, nI_toInt (by omega)]
    omega
def xs_b (p : Int32) : Int32 := if p = 0 then 0 else 1
def md_ic (s : Int32) : Int32 := if s = 99 then 1 else if s = 104 then 1 else 0
def md_hl (s : Int32) : Int32 := if s = 102 then 1 else if s = 120 then 1 else if s = 111 then 1 else 0
def md_hc (s : Int32) : Int32 := if s = 104 then 1 else if s = 115 then 1 else if s = 120 then 1 else 0
/-- what is thrown, as a number: 0, nothing -/
def xs_tank (p1 p2 p3 p4 : Int32) : Int32 := if md_nt p1 = 0 then (if lin p2.toInt64 0 100000 = 0 then 1 else if lin p3.toInt64 0 1000 = 0 then 1 else if lin p4.toInt64 0 100 = 0 then 1 else 0) else 1
def xs_drain (p1 p2 : Int32) : Int32 := if md_nt p1 = 0 then (if lin p2.toInt64 1 100000 = 0 then 1 else 0) else 1
def xs_go (st : Int32) (c : Int32) : Int32 := if md_ic st = 0 then (if md_hl st = 0 then 0 else c) else c
def xs_step (n st p1 p2 : Int32) : Int32 := if lin p1.toInt64 (-600) (-1) = 0 then 1 else if lin p2.toInt64 1 300 = 0 then 1 else if n = 16 then 2 else xs_go st 2
def xs_after (n st p1 p2 : Int32) : Int32 := if md_no p1 n = 0 then (if md_no p2 n = 0 then (if p2 < p1 then xs_go st 3 else 2) else 1) else 1
def md_at (f : Nat → Int32) (v : Int32) : Nat → Int32
  | 0 => -1
  | i + 1 => if f i = v then nI i else md_at f v i
def xs_mark (f : Nat → Int32) (z : Nat) (n st p1 p2 p3 : Int32) : Int32 := if lin p1.toInt64 (-600) (-1) = 0 then 1 else if lin p2.toInt64 0 300 = 0 then 1 else if md_at f p1 z = -1 then (if lin p3.toInt64 0 ((1 <<< (n &&& 31)) - 1).toInt64 = 0 then 2 else if nI z = 6 then 3 else xs_go st 3) else 1
def md_sum (o t : Nat → Int32) (k : Nat) : Nat → Int32
  | 0 => 0
  | i + 1 => if o (3 * k + i) = 0 then md_sum o t k i + t (3 * k + i) else md_sum o t k i
def md_tog (o t : Nat → Int32) (k : Nat) : Int32 := if sn_cnt o k 3 = 3 then sn_sum o t k 3 - sn_lo o t k 10000 3 - sn_hi o t k (-10000) 3 else sn_sum o t k 3 / sn_cnt o k 3
def xs_sense (p1 p2 : Int32) : Int32 := if lin p1.toInt64 0 8 = 0 then 1 else if lin p2.toInt64 (-9999) 9999 = 0 then 1 else 0
def xs_inh (o : Nat → Int32) (p1 p2 : Int32) : Int32 := if lin p1.toInt64 0 8 = 0 then 1 else if p2 = 0 then 0 else if o p1.toNatClampNeg = 0 then (if sn_cnt o (p1.toNatClampNeg / 3) 3 = 1 then 2 else 0) else 0
def xs_wind (p1 : Int32) : Int32 := if lin p1.toInt64 0 200 = 0 then 1 else 0
def md_near (f : Nat → Int32) (s : Int32) : Nat → Int32
  | 0 => 0
  | i + 1 => md_near f s i + (if f i ≤ s - 600 then 0 else 1)
def md_risk (p d : Nat → Int32) : Int32 := bt_sum (fun i => bt_risk (p i) (d i)) 8
def xs_boat (p1 p2 p3 : Int32) : Int32 := if lin p1.toInt64 0 7 = 0 then 1 else if lin p2.toInt64 0 50 = 0 then 1 else if lin p3.toInt64 0 99 = 0 then 1 else 0
def xs_may (n p1 p2 : Int32) : Int32 := if md_no p1 n = 0 then (if md_nc p2 = 0 then 0 else 2) else 1
def md_iw (w b t c : Int32) : Int32 := if w = 0 then 0 else if b = 0 then 0 else if t < c then 0 else 1
theorem md_iw_bo (w b t c : Int32) : isBo (md_iw w b t c) := by
  unfold md_iw
  split
  · exact isBo_0
  · split
    · exact isBo_0
    · split
      · exact isBo_0
      · exact isBo_1
def xs_waive (may : Nat → Int32) (n p1 p2 p3 : Int32) : Int32 := if md_no p1 n = 0 then (if md_nc p2 = 0 then (if lin p3.toInt64 (-600) 0 = 0 then 2 else if may (6 * p1.toNatClampNeg + p2.toNatClampNeg) = 0 then 3 else 0) else 2) else 1
def md_end (f : Nat → Int32) : Nat → Nat → Int32
  | 0 => f
  | i + 1 => upd (md_end f i) i 0
/-- a rule's value -/
def md_val (M : XF) (K : KF) (zs : Nat) (j : Nat) : Int32 :=
  if M 63 j = 98 then md_risk (M 59) (M 60) else if M 63 j = 108 then md_near (M 58) (M 101 0) zs else if M 63 j = 115 then md_tog (M 57) (M 56) (M 64 j).toNatClampNeg
  else if M 63 j = 116 then M 46 (M 64 j).toNatClampNeg else if M 63 j = 119 then M 115 0 else if M 61 (M 64 j).toNatClampNeg = 0 then 0 else 1
def md_hn (M : XF) (K : KF) (zs j : Nat) : Int32 := lin (md_val M K zs j).toInt64 (M 65 j).toInt64 (M 66 j).toInt64
def md_met (M : XF) (K : KF) (zs j : Nat) : Int32 := if md_hn M K zs j = 0 then (if md_iw (M 69 j) (M 103 0) (M 70 j) (M 104 0) = 0 then 0 else 1) else if M 67 j ≤ M 68 j then 1 else if md_iw (M 69 j) (M 103 0) (M 70 j) (M 104 0) = 0 then 0 else 1
theorem md_met_bo (M : XF) (K : KF) (zs j : Nat) : isBo (md_met M K zs j) := by
  unfold md_met
  split
  · split
    · exact isBo_0
    · exact isBo_1
  · split
    · exact isBo_1
    · split
      · exact isBo_0
      · exact isBo_1
/-- a rule asks what there is -/
def okAb (kd ab : Int32) : Prop := (kd = 116 → ∃ k : Nat, k < 3 ∧ ab = nI k) ∧ (kd = 115 → ∃ k : Nat, k < 3 ∧ ab = nI k) ∧ (¬ kd = 98 → ¬ kd = 108 → ¬ kd = 115 → ¬ kd = 116 → ¬ kd = 119 → ∃ k : Nat, k < 6 ∧ ab = nI k)
def md_tk1 (a b o rm rt : Int32) : Int32 := if o = 0 then a - (a.toInt64 * b.toInt64 / 1000).toInt32 else tk_min rm (a - (a.toInt64 * b.toInt64 / 1000).toInt32 + rt)
def md_tk (room rate boil o a : Nat → Int32) : Nat → Nat → Int32
  | 0 => a
  | i + 1 => upd (md_tk room rate boil o a i) i (md_tk1 (md_tk room rate boil o a i i) (boil i) (o i) (room i) (rate i))
def md_ad (s : Nat → Int32) (p : Int32) : Nat → Int32
  | 0 => 1
  | i + 1 => if md_ad s p i = 0 then 0 else if (p >>> (nI i &&& 31)) &&& 1 = 0 then 1 else if s i = 101 then 1 else 0
theorem md_ad_bo (s : Nat → Int32) (p : Int32) : ∀ i, isBo (md_ad s p i)
  | 0 => isBo_1
  | i + 1 => by
    unfold md_ad
    split
    · exact isBo_0
    · split
      · exact isBo_1
      · split
        · exact isBo_1
        · exact isBo_0
def md_ga (l s : Nat → Int32) : Nat → (Nat → Int32) × (Nat → Int32)
  | 0 => (l, s)
  | i + 1 => if (md_ga l s i).2 i = 114 then (upd (md_ga l s i).1 i ((md_ga l s i).1 i - 1), upd (md_ga l s i).2 i (if (md_ga l s i).1 i - 1 = 0 then 101 else 114)) else md_ga l s i
def md_gb (z : Nat) (c : Int32) (fr tk ah l s : Nat → Int32) : Nat → (Nat → Int32) × (Nat → Int32)
  | 0 => (l, s)
  | i + 1 => if (md_gb z c fr tk ah l s i).2 i = 45 then (if c < fr i then md_gb z c fr tk ah l s i else if md_ad (md_gb z c fr tk ah l s i).2 (ah i) z = 0 then md_gb z c fr tk ah l s i else (upd (md_gb z c fr tk ah l s i).1 i (tk i), upd (md_gb z c fr tk ah l s i).2 i 114)) else md_gb z c fr tk ah l s i
theorem md_val_t (M : XF) (K : KF) (f : Nat → Int32) (zs j : Nat) : md_val (sa M 100 f) K zs j = md_val M K zs j := rfl
theorem md_hn_t (M : XF) (K : KF) (f : Nat → Int32) (zs j : Nat) : md_hn (sa M 100 f) K zs j = md_hn M K zs j := rfl
theorem md_met_t (M : XF) (K : KF) (f : Nat → Int32) (zs j : Nat) : md_met (sa M 100 f) K zs j = md_met M K zs j := rfl
def md_cnt (M : XF) (K : KF) (zs : Nat) : Nat → Int32
  | 0 => 0
  | i + 1 => md_cnt M K zs i + (if md_met M K zs i = 0 then 0 else 1)
def md_fn (M : XF) (K : KF) (zs : Nat) : Nat → Nat → Int32
  | 0, _ => -1
  | n + 1, i => if md_met M K zs i = 0 then nI i else md_fn M K zs n (i + 1)
def xs_track (p1 p2 : Int32) : Int32 := if lin p1.toInt64 0 1 = 0 then 1 else if lin p2.toInt64 (-999) 999 = 0 then 1 else 0
def xs_beg (b : Int32) : Int32 := if b = 0 then 1 else 0
def xs_cau (s : Int32) : Int32 := if md_hc s = 0 then 1 else 0
def xs_car (s c : Int32) : Int32 := if md_hc s = 0 then 1 else if c = -1 then 1 else 0
section
variable {G : MC} {cc : ByteArray} {own : String} {X M : XF} {K : KF} {L : List (Nat × Value)} {k n pc : Nat} {stk : List Value} {Wp : Heap → Prop}
theorem g_lsw {dflt : Int} {ps : Array (Int × Int)} {len : Nat} {x : Int32} {off : Int} {tgt : Nat} (C : Cx G cc own) (d : decode cc pc = .ok (.lookupswitch dflt ps, len)) (hp : (ps.toList.zip (ps.toList.drop 1)).all (fun (a, next) => a.1 < next.1) = true) (ho : Op.lookupswitch.offset ps.toList dflt x.toInt = off) (ht : (pc : Int) + off = (tgt : Int)) (kk : GH G Wp L k n tgt stk) : GH G Wp L k n pc (.int x :: stk) := fun H locs ls hl hw hS => lv_lookup C.x C.b d hp ho ht (kk H locs ls hl hw hS)
theorem al_58 (C : Cx G cc own) {i : Nat} (hi : i < K.2.1 2 ∧ K.2.1 2 < 2 ^ 31) (d : decode cc pc = .ok (.iaload, 1)) (kk : GH G (WX G X M K) L k n (pc + 1) (.int (M 58 i) :: stk)) : GH G (WX G X M K) L k n pc (.int (nI i) :: .ref (K.2.1 3) :: stk) := g_iald C 58 (fun b0 b1 f0 f1 => wL_58 (gad G) (gcy G) X M K b0 b1 f0 f1) hi.1 hi.2 d kk
theorem wS_58 (ad : Nat → Nat) (cy : Nat → ClassId) (X M : XF) (K : KF) (b0 b1 : Nat) (f0 f1 : Nat → Int32) (f : Nat → Int32) : (wL ad cy b0 b1 f0 f1 X M K).set 58 (K.2.1 3, .inl (cy 0, K.2.1 2, .inl f)) = wL ad cy b0 b1 f0 f1 X (sa M 58 f) K := rfl
theorem as_58 (C : Cx G cc own) {i : Nat} {x : Int32} (hi : i < K.2.1 2 ∧ K.2.1 2 < 2 ^ 31) (d : decode cc pc = .ok (.iastore, 1)) (kk : GH G (WX G X (sa M 58 (upd (M 58) i x)) K) L k n (pc + 1) stk) : GH G (WX G X M K) L k n pc (.int x :: .int (nI i) :: .ref (K.2.1 3) :: stk) := g_iast C 58 (fun b0 b1 f0 f1 => wL_58 (gad G) (gcy G) X M K b0 b1 f0 f1) hi.1 hi.2 (fun b0 b1 f0 f1 => wS_58 (gad G) (gcy G) X M K b0 b1 f0 f1 _) d kk
end

set_option maxHeartbeats 400000 in
set_option maxRecDepth 100000 in
/-- in.in -/
theorem c_X11_in (l : Launch) (D : va_G) (cy : Nat → ClassId) (A : Nat → Prop) (ad sad : Nat → Nat) (X M : XF) (K : KF) (p0 p1 p2 : Int64) : Met l yX11_in (wsA yX11_in cX11_in 6 (some .boolean)) ({ frames := 0, cells := 0, slots := 0, locals := 0 }) (PcW D cy A ad sad X M K [.long p0, .long p1, .long p2]) (QiW D cy A ad (fun r X1 M1 K1 => r = lin p0 p1 p2 ∧ X1 = X ∧ M1 = M ∧ K1 = K)) 0 0 A := by
  refine met_ofW [(0, .long p0), (2, .long p1), (4, .long p2)] (by decide +kernel) (Nat.le_of_ble_eq_true rfl) rfl ?_
  intro G C hl hR hL hD hcy hA had hsa hr hQ
  subst hD hcy hA had hsa hl
  refine g_lload_n C dX11_in_0 0 rfl ?_
  refine g_lload_n C dX11_in_1 1 rfl ?_
  refine g_lcmp C dX11_in_2 ?_
  refine g_if_lt C dX11_in_3 (tgt := 17) (by decide) (fun c_3 => ?_) (fun c_3 => ?_)
  · try simp only [sa_ap, si_ap, reduceIte, Nat.reduceEqDiff, up_us, lg_cmp_lt, lg_cmp_gt, lg_cmp_le, lg_cmp_ge] at c_3
    refine g_iconst C dX11_in_17 (v := 0) (by decide) ?_
    refine g_zretW C hr (by decide) hQ (Nat.le_refl _) (Nat.le_refl _) dX11_in_18 ?_
    exact ⟨(by first | with_reducible rfl | (first | with_reducible rfl | (simp only [sa_ap, si_ap, si_sa, sa_sa, sa_3, sa_4, sa_5, sa_6, sa_7, sa_8, lin, up_us, up_up, xs_b, c_3]; done) | (simp [sa_ap, si_ap, si_sa, sa_sa, sa_3, sa_4, sa_5, sa_6, sa_7, sa_8, lin, up_us, up_up, xs_b, c_3]; done))), (by first | with_reducible rfl | (first | with_reducible rfl | (simp only [sa_ap, si_ap, si_sa, sa_sa, sa_3, sa_4, sa_5, sa_6, sa_7, sa_8, lin, up_us, up_up, xs_b, c_3]; done) | (simp [sa_ap, si_ap, si_sa, sa_sa, sa_3, sa_4, sa_5, sa_6, sa_7, sa_8, lin, up_us, up_up, xs_b, c_3]; done))), rfl, rfl⟩
  · try simp only [sa_ap, si_ap, reduceIte, Nat.reduceEqDiff, up_us, lg_cmp_lt, lg_cmp_gt, lg_cmp_le, lg_cmp_ge] at c_3
    refine g_lload_n C dX11_in_6 0 rfl ?_
    refine g_lload C dX11_in_7 2 rfl ?_
    refine g_lcmp C dX11_in_9 ?_
    refine g_if_gt C dX11_in_10 (tgt := 17) (by decide) (fun c_10 => ?_) (fun c_10 => ?_)
    · try simp only [sa_ap, si_ap, reduceIte, Nat.reduceEqDiff, up_us, lg_cmp_lt, lg_cmp_gt, lg_cmp_le, lg_cmp_ge] at c_10
      refine g_iconst C dX11_in_17 (v := 0) (by decide) ?_
      refine g_zretW C hr (by decide) hQ (Nat.le_refl _) (Nat.le_refl _) dX11_in_18 ?_
      exact ⟨(by first | with_reducible rfl | (first | with_reducible rfl | (simp only [sa_ap, si_ap, si_sa, sa_sa, sa_3, sa_4, sa_5, sa_6, sa_7, sa_8, lin, up_us, up_up, xs_b, c_3, c_10]; done) | (simp [sa_ap, si_ap, si_sa, sa_sa, sa_3, sa_4, sa_5, sa_6, sa_7, sa_8, lin, up_us, up_up, xs_b, c_3, c_10]; done))), (by first | with_reducible rfl | (first | with_reducible rfl | (simp only [sa_ap, si_ap, si_sa, sa_sa, sa_3, sa_4, sa_5, sa_6, sa_7, sa_8, lin, up_us, up_up, xs_b, c_3, c_10]; done) | (simp [sa_ap, si_ap, si_sa, sa_sa, sa_3, sa_4, sa_5, sa_6, sa_7, sa_8, lin, up_us, up_up, xs_b, c_3, c_10]; done))), rfl, rfl⟩
    · try simp only [sa_ap, si_ap, reduceIte, Nat.reduceEqDiff, up_us, lg_cmp_lt, lg_cmp_gt, lg_cmp_le, lg_cmp_ge] at c_10
      refine g_iconst C dX11_in_13 (v := 1) (by decide) ?_
      refine g_goto C dX11_in_14 (tgt := 18) (by decide) ?_
      refine g_zretW C hr (by decide) hQ (Nat.le_refl _) (Nat.le_refl _) dX11_in_18 ?_
      exact ⟨(by first | with_reducible rfl | (first | with_reducible rfl | (simp only [sa_ap, si_ap, si_sa, sa_sa, sa_3, sa_4, sa_5, sa_6, sa_7, sa_8, lin, up_us, up_up, xs_b, c_3, c_10]; done) | (simp [sa_ap, si_ap, si_sa, sa_sa, sa_3, sa_4, sa_5, sa_6, sa_7, sa_8, lin, up_us, up_up, xs_b, c_3, c_10]; done))), (by first | with_reducible rfl | (first | with_reducible rfl | (simp only [sa_ap, si_ap, si_sa, sa_sa, sa_3, sa_4, sa_5, sa_6, sa_7, sa_8, lin, up_us, up_up, xs_b, c_3, c_10]; done) | (simp [sa_ap, si_ap, si_sa, sa_sa, sa_3, sa_4, sa_5, sa_6, sa_7, sa_8, lin, up_us, up_up, xs_b, c_3, c_10]; done))), rfl, rfl⟩

set_option maxHeartbeats 400000 in
set_option maxRecDepth 100000 in
/-- fails.fails -/
theorem c_X11_fails_0 (l : Launch) (D : va_G) (cy : Nat → ClassId) (A : Nat → Prop) (ad sad : Nat → Nat) (X M : XF) (K : KF) (p2 : Int32) (h0 : M 100 0 = 0) : Met l yX11_fails (wsA yX11_fails cX11_fails 3 (some .boolean)) ({ frames := 0, cells := 0, slots := 0, locals := 0 }) (PcW D cy A ad sad X M K [.ref (ad 42), .int 0, .int p2]) (QiW D cy A ad (fun r X1 M1 K1 => r = 0 ∧ X1 = X ∧ M1 = M ∧ K1 = K)) 0 0 A := by
  refine met_ofW [(0, .ref (ad 42)), (1, .int 0), (2, .int p2)] (by decide +kernel) (Nat.le_of_ble_eq_true rfl) rfl ?_
  intro G C hl hR hL hD hcy hA had hsa hr hQ
  subst hD hcy hA had hsa hl
  refine g_iload_n C dX11_fails_0 1 rfl ?_
  refine g_if_eq C dX11_fails_1 (tgt := 16) (by decide) (fun c_1 => ?_) (fun c_1 => absurd (by decide) c_1)
  refine g_aload_n C dX11_fails_16 0 rfl ?_
  refine gf_X11_thrown C tw1243 dX11_fails_17 ?_
  refine g_topi h0 ?_
  refine g_if_eq C dX11_fails_20 (tgt := 27) (by decide) (fun c_20 => ?_) (fun c_20 => absurd (by decide) c_20)
  refine g_iconst C dX11_fails_27 (v := 0) (by decide) ?_
  refine g_zretW C hr (by decide) hQ (Nat.le_refl _) (Nat.le_refl _) dX11_fails_28 ?_
  exact ⟨(by first | with_reducible rfl | (first | with_reducible rfl | (simp only [sa_ap, si_ap, si_sa, sa_sa, sa_3, sa_4, sa_5, sa_6, sa_7, sa_8, up_us, up_up, xs_b]; done) | (simp [sa_ap, si_ap, si_sa, sa_sa, sa_3, sa_4, sa_5, sa_6, sa_7, sa_8, up_us, up_up, xs_b]; done))), (by first | with_reducible rfl | (first | with_reducible rfl | (simp only [sa_ap, si_ap, si_sa, sa_sa, sa_3, sa_4, sa_5, sa_6, sa_7, sa_8, up_us, up_up, xs_b]; done) | (simp [sa_ap, si_ap, si_sa, sa_sa, sa_3, sa_4, sa_5, sa_6, sa_7, sa_8, up_us, up_up, xs_b]; done))), rfl, rfl⟩

set_option maxHeartbeats 400000 in
set_option maxRecDepth 100000 in
/-- fails.fails -/
theorem c_X11_fails_1 (l : Launch) (D : va_G) (cy : Nat → ClassId) (A : Nat → Prop) (ad sad : Nat → Nat) (X M : XF) (K : KF) (p2 : Int32) (h0 : M 100 0 = 0) (h2 : ¬ p2 = 0) : Met l yX11_fails (wsA yX11_fails cX11_fails 3 (some .boolean)) ({ frames := 0, cells := 0, slots := 0, locals := 0 }) (PcW D cy A ad sad X M K [.ref (ad 42), .int 1, .int p2]) (QiW D cy A ad (fun r X1 M1 K1 => r = 1 ∧ X1 = X ∧ M1 = si M 100 p2 ∧ K1 = K)) 0 0 A := by
  refine met_ofW [(0, .ref (ad 42)), (1, .int 1), (2, .int p2)] (by decide +kernel) (Nat.le_of_ble_eq_true rfl) rfl ?_
  intro G C hl hR hL hD hcy hA had hsa hr hQ
  subst hD hcy hA had hsa hl
  refine g_iload_n C dX11_fails_0 1 rfl ?_
  refine g_if_eq C dX11_fails_1 (tgt := 16) (by decide) (fun c_1 => absurd c_1 (by decide)) (fun c_1 => ?_)
  refine g_aload_n C dX11_fails_4 0 rfl ?_
  refine gf_X11_thrown C tw1243 dX11_fails_5 ?_
  refine g_topi h0 ?_
  refine g_if_ne C dX11_fails_8 (tgt := 16) (by decide) (fun c_8 => absurd c_8 (by decide)) (fun c_8 => ?_)
  refine g_aload_n C dX11_fails_11 0 rfl ?_
  refine g_iload_n C dX11_fails_12 2 rfl ?_
  refine pf_X11_thrown C tw1243 dX11_fails_13 ?_
  refine g_aload_n C dX11_fails_16 0 rfl ?_
  refine gf_X11_thrown C tw1243 dX11_fails_17 ?_
  refine g_topi rfl ?_
  refine g_if_eq C dX11_fails_20 (tgt := 27) (by decide) (fun c_20 => absurd c_20 h2) (fun c_20 => ?_)
  refine g_iconst C dX11_fails_23 (v := 1) (by decide) ?_
  refine g_goto C dX11_fails_24 (tgt := 28) (by decide) ?_
  refine g_zretW C hr (by decide) hQ (Nat.le_refl _) (Nat.le_refl _) dX11_fails_28 ?_
  exact ⟨(by first | with_reducible rfl | (first | with_reducible rfl | (simp only [sa_ap, si_ap, si_sa, sa_sa, sa_3, sa_4, sa_5, sa_6, sa_7, sa_8, up_us, up_up, xs_b]; done) | (simp [sa_ap, si_ap, si_sa, sa_sa, sa_3, sa_4, sa_5, sa_6, sa_7, sa_8, up_us, up_up, xs_b]; done))), (by first | with_reducible rfl | (first | with_reducible rfl | (simp only [sa_ap, si_ap, si_sa, sa_sa, sa_3, sa_4, sa_5, sa_6, sa_7, sa_8, up_us, up_up, xs_b]; done) | (simp [sa_ap, si_ap, si_sa, sa_sa, sa_3, sa_4, sa_5, sa_6, sa_7, sa_8, up_us, up_up, xs_b]; done))), rfl, rfl⟩

set_option maxHeartbeats 400000 in
set_option maxRecDepth 100000 in
/-- fails.fails -/
theorem c_X11_fails (l : Launch) (D : va_G) (cy : Nat → ClassId) (A : Nat → Prop) (ad sad : Nat → Nat) (X M : XF) (K : KF) (p1 p2 : Int32) (h0 : M 100 0 = 0) (h2 : ¬ p2 = 0) : Met l yX11_fails (wsA yX11_fails cX11_fails 3 (some .boolean)) ({ frames := 0, cells := 0, slots := 0, locals := 0 }) (PcW D cy A ad sad X M K [.ref (ad 42), .int p1, .int p2]) (QiW D cy A ad (fun r X1 M1 K1 => r = (if p1 = 0 then 0 else 1) ∧ X1 = X ∧ M1 = (if p1 = 0 then M else si M 100 p2) ∧ K1 = K)) 0 0 A := by
  refine met_ofW [(0, .ref (ad 42)), (1, .int p1), (2, .int p2)] (by decide +kernel) (Nat.le_of_ble_eq_true rfl) rfl ?_
  intro G C hl hR hL hD hcy hA had hsa hr hQ
  subst hD hcy hA had hsa hl
  refine g_iload_n C dX11_fails_0 1 rfl ?_
  refine g_if_eq C dX11_fails_1 (tgt := 16) (by decide) (fun c_1 => ?_) (fun c_1 => ?_)
  · try simp only [sa_ap, si_ap, reduceIte, Nat.reduceEqDiff, up_us, lg_cmp_lt, lg_cmp_gt, lg_cmp_le, lg_cmp_ge] at c_1
    refine g_aload_n C dX11_fails_16 0 rfl ?_
    refine gf_X11_thrown C tw1243 dX11_fails_17 ?_
    refine g_if_eq C dX11_fails_20 (tgt := 27) (by decide) (fun c_20 => ?_) (fun c_20 => ?_)
    · try simp only [sa_ap, si_ap, reduceIte, Nat.reduceEqDiff, up_us, lg_cmp_lt, lg_cmp_gt, lg_cmp_le, lg_cmp_ge] at c_20
      refine g_iconst C dX11_fails_27 (v := 0) (by decide) ?_
      refine g_zretW C hr (by decide) hQ (Nat.le_refl _) (Nat.le_refl _) dX11_fails_28 ?_
      first | exact absurd c_20 h2 | exact absurd h0 c_20 | exact ⟨(by first | with_reducible rfl | (first | with_reducible rfl | (simp only [sa_ap, si_ap, si_sa, sa_sa, sa_3, sa_4, sa_5, sa_6, sa_7, sa_8, up_us, up_up, xs_b, c_1, c_20]; done) | (simp [sa_ap, si_ap, si_sa, sa_sa, sa_3, sa_4, sa_5, sa_6, sa_7, sa_8, up_us, up_up, xs_b, c_1, c_20]; done))), rfl, (by first | with_reducible rfl | (first | with_reducible rfl | (simp only [sa_ap, si_ap, si_sa, sa_sa, sa_3, sa_4, sa_5, sa_6, sa_7, sa_8, up_us, up_up, xs_b, c_1, c_20]; done) | (simp [sa_ap, si_ap, si_sa, sa_sa, sa_3, sa_4, sa_5, sa_6, sa_7, sa_8, up_us, up_up, xs_b, c_1, c_20]; done))), rfl⟩
    · try simp only [sa_ap, si_ap, reduceIte, Nat.reduceEqDiff, up_us, lg_cmp_lt, lg_cmp_gt, lg_cmp_le, lg_cmp_ge] at c_20
      refine g_iconst C dX11_fails_23 (v := 1) (by decide) ?_
      refine g_goto C dX11_fails_24 (tgt := 28) (by decide) ?_
      refine g_zretW C hr (by decide) hQ (Nat.le_refl _) (Nat.le_refl _) dX11_fails_28 ?_
      first | exact absurd c_20 h2 | exact absurd h0 c_20 | exact ⟨(by first | with_reducible rfl | (first | with_reducible rfl | (simp only [sa_ap, si_ap, si_sa, sa_sa, sa_3, sa_4, sa_5, sa_6, sa_7, sa_8, up_us, up_up, xs_b, c_1, c_20]; done) | (simp [sa_ap, si_ap, si_sa, sa_sa, sa_3, sa_4, sa_5, sa_6, sa_7, sa_8, up_us, up_up, xs_b, c_1, c_20]; done))), rfl, (by first | with_reducible rfl | (first | with_reducible rfl | (simp only [sa_ap, si_ap, si_sa, sa_sa, sa_3, sa_4, sa_5, sa_6, sa_7, sa_8, up_us, up_up, xs_b, c_1, c_20]; done) | (simp [sa_ap, si_ap, si_sa, sa_sa, sa_3, sa_4, sa_5, sa_6, sa_7, sa_8, up_us, up_up, xs_b, c_1, c_20]; done))), rfl⟩
  · try simp only [sa_ap, si_ap, reduceIte, Nat.reduceEqDiff, up_us, lg_cmp_lt, lg_cmp_gt, lg_cmp_le, lg_cmp_ge] at c_1
    refine g_aload_n C dX11_fails_4 0 rfl ?_
    refine gf_X11_thrown C tw1243 dX11_fails_5 ?_
    refine g_topi h0 ?_
    refine g_if_ne C dX11_fails_8 (tgt := 16) (by decide) (fun c_8 => absurd c_8 (by decide)) (fun c_8 => ?_)
    refine g_aload_n C dX11_fails_11 0 rfl ?_
    refine g_iload_n C dX11_fails_12 2 rfl ?_
    refine pf_X11_thrown C tw1243 dX11_fails_13 ?_
    refine g_aload_n C dX11_fails_16 0 rfl ?_
    refine gf_X11_thrown C tw1243 dX11_fails_17 ?_
    refine g_if_eq C dX11_fails_20 (tgt := 27) (by decide) (fun c_20 => ?_) (fun c_20 => ?_)
    · try simp only [sa_ap, si_ap, reduceIte, Nat.reduceEqDiff, up_us, lg_cmp_lt, lg_cmp_gt, lg_cmp_le, lg_cmp_ge] at c_20
      refine g_iconst C dX11_fails_27 (v := 0) (by decide) ?_
      refine g_zretW C hr (by decide) hQ (Nat.le_refl _) (Nat.le_refl _) dX11_fails_28 ?_
      first | exact absurd c_20 h2 | exact absurd h0 c_20 | exact ⟨(by first | with_reducible rfl | (first | with_reducible rfl | (simp only [sa_ap, si_ap, si_sa, sa_sa, sa_3, sa_4, sa_5, sa_6, sa_7, sa_8, up_us, up_up, xs_b, c_1, c_20]; done) | (simp [sa_ap, si_ap, si_sa, sa_sa, sa_3, sa_4, sa_5, sa_6, sa_7, sa_8, up_us, up_up, xs_b, c_1, c_20]; done))), rfl, (by first | with_reducible rfl | (first | with_reducible rfl | (simp only [sa_ap, si_ap, si_sa, sa_sa, sa_3, sa_4, sa_5, sa_6, sa_7, sa_8, up_us, up_up, xs_b, c_1, c_20]; done) | (simp [sa_ap, si_ap, si_sa, sa_sa, sa_3, sa_4, sa_5, sa_6, sa_7, sa_8, up_us, up_up, xs_b, c_1, c_20]; done))), rfl⟩
    · try simp only [sa_ap, si_ap, reduceIte, Nat.reduceEqDiff, up_us, lg_cmp_lt, lg_cmp_gt, lg_cmp_le, lg_cmp_ge] at c_20
      refine g_iconst C dX11_fails_23 (v := 1) (by decide) ?_
      refine g_goto C dX11_fails_24 (tgt := 28) (by decide) ?_
      refine g_zretW C hr (by decide) hQ (Nat.le_refl _) (Nat.le_refl _) dX11_fails_28 ?_
      first | exact absurd c_20 h2 | exact absurd h0 c_20 | exact ⟨(by first | with_reducible rfl | (first | with_reducible rfl | (simp only [sa_ap, si_ap, si_sa, sa_sa, sa_3, sa_4, sa_5, sa_6, sa_7, sa_8, up_us, up_up, xs_b, c_1, c_20]; done) | (simp [sa_ap, si_ap, si_sa, sa_sa, sa_3, sa_4, sa_5, sa_6, sa_7, sa_8, up_us, up_up, xs_b, c_1, c_20]; done))), rfl, (by first | with_reducible rfl | (first | with_reducible rfl | (simp only [sa_ap, si_ap, si_sa, sa_sa, sa_3, sa_4, sa_5, sa_6, sa_7, sa_8, up_us, up_up, xs_b, c_1, c_20]; done) | (simp [sa_ap, si_ap, si_sa, sa_sa, sa_3, sa_4, sa_5, sa_6, sa_7, sa_8, up_us, up_up, xs_b, c_1, c_20]; done))), rfl⟩

set_option maxHeartbeats 400000 in
set_option maxRecDepth 100000 in
/-- isCounting.isCounting -/
theorem c_X11_isCounting (l : Launch) (D : va_G) (cy : Nat → ClassId) (A : Nat → Prop) (ad sad : Nat → Nat) (X M : XF) (K : KF) : Met l yX11_isCounting (wsA yX11_isCounting cX11_isCounting 1 (some .boolean)) ({ frames := 0, cells := 0, slots := 0, locals := 0 }) (PcW D cy A ad sad X M K [.ref (ad 42)]) (QiW D cy A ad (fun r X1 M1 K1 => r = md_ic (M 102 0) ∧ X1 = X ∧ M1 = M ∧ K1 = K)) 0 0 A := by
  refine met_ofW [(0, .ref (ad 42))] (by decide +kernel) (Nat.le_of_ble_eq_true rfl) rfl ?_
  intro G C hl hR hL hD hcy hA had hsa hr hQ
  subst hD hcy hA had hsa hl
  refine g_aload_n C dX11_isCounting_0 0 rfl ?_
  refine gf_X11_state C tw1245 dX11_isCounting_1 ?_
  refine g_bipush C dX11_isCounting_4 (v := 99) (by decide) ?_
  refine g_icmp_eq C dX11_isCounting_6 (tgt := 18) (by decide) (fun c_6 => ?_) (fun c_6 => ?_)
  · try simp only [sa_ap, si_ap, reduceIte, Nat.reduceEqDiff, up_us, lg_cmp_lt, lg_cmp_gt, lg_cmp_le, lg_cmp_ge] at c_6
    refine g_iconst C dX11_isCounting_18 (v := 1) (by decide) ?_
    refine g_goto C dX11_isCounting_19 (tgt := 23) (by decide) ?_
    refine g_zretW C hr (by decide) hQ (Nat.le_refl _) (Nat.le_refl _) dX11_isCounting_23 ?_
    exact ⟨(by first | with_reducible rfl | (first | with_reducible rfl | (simp only [sa_ap, si_ap, si_sa, sa_sa, sa_3, sa_4, sa_5, sa_6, sa_7, sa_8, md_ic, up_us, up_up, xs_b, c_6]; done) | (simp [sa_ap, si_ap, si_sa, sa_sa, sa_3, sa_4, sa_5, sa_6, sa_7, sa_8, md_ic, up_us, up_up, xs_b, c_6]; done))), (by first | with_reducible rfl | (first | with_reducible rfl | (simp only [sa_ap, si_ap, si_sa, sa_sa, sa_3, sa_4, sa_5, sa_6, sa_7, sa_8, md_ic, up_us, up_up, xs_b, c_6]; done) | (simp [sa_ap, si_ap, si_sa, sa_sa, sa_3, sa_4, sa_5, sa_6, sa_7, sa_8, md_ic, up_us, up_up, xs_b, c_6]; done))), rfl, rfl⟩
  · try simp only [sa_ap, si_ap, reduceIte, Nat.reduceEqDiff, up_us, lg_cmp_lt, lg_cmp_gt, lg_cmp_le, lg_cmp_ge] at c_6
    refine g_aload_n C dX11_isCounting_9 0 rfl ?_
    refine gf_X11_state C tw1245 dX11_isCounting_10 ?_
    refine g_bipush C dX11_isCounting_13 (v := 104) (by decide) ?_
    refine g_icmp_ne C dX11_isCounting_15 (tgt := 22) (by decide) (fun c_15 => ?_) (fun c_15 => ?_)
    · try simp only [sa_ap, si_ap, reduceIte, Nat.reduceEqDiff, up_us, lg_cmp_lt, lg_cmp_gt, lg_cmp_le, lg_cmp_ge] at c_15
      refine g_iconst C dX11_isCounting_22 (v := 0) (by decide) ?_
      refine g_zretW C hr (by decide) hQ (Nat.le_refl _) (Nat.le_refl _) dX11_isCounting_23 ?_
      exact ⟨(by first | with_reducible rfl | (first | with_reducible rfl | (simp only [sa_ap, si_ap, si_sa, sa_sa, sa_3, sa_4, sa_5, sa_6, sa_7, sa_8, md_ic, up_us, up_up, xs_b, c_6, c_15]; done) | (simp [sa_ap, si_ap, si_sa, sa_sa, sa_3, sa_4, sa_5, sa_6, sa_7, sa_8, md_ic, up_us, up_up, xs_b, c_6, c_15]; done))), (by first | with_reducible rfl | (first | with_reducible rfl | (simp only [sa_ap, si_ap, si_sa, sa_sa, sa_3, sa_4, sa_5, sa_6, sa_7, sa_8, md_ic, up_us, up_up, xs_b, c_6, c_15]; done) | (simp [sa_ap, si_ap, si_sa, sa_sa, sa_3, sa_4, sa_5, sa_6, sa_7, sa_8, md_ic, up_us, up_up, xs_b, c_6, c_15]; done))), rfl, rfl⟩
    · try simp only [sa_ap, si_ap, reduceIte, Nat.reduceEqDiff, up_us, lg_cmp_lt, lg_cmp_gt, lg_cmp_le, lg_cmp_ge] at c_15
      refine g_iconst C dX11_isCounting_18 (v := 1) (by decide) ?_
      refine g_goto C dX11_isCounting_19 (tgt := 23) (by decide) ?_
      refine g_zretW C hr (by decide) hQ (Nat.le_refl _) (Nat.le_refl _) dX11_isCounting_23 ?_
      exact ⟨(by first | with_reducible rfl | (first | with_reducible rfl | (simp only [sa_ap, si_ap, si_sa, sa_sa, sa_3, sa_4, sa_5, sa_6, sa_7, sa_8, md_ic, up_us, up_up, xs_b, c_6, c_15]; done) | (simp [sa_ap, si_ap, si_sa, sa_sa, sa_3, sa_4, sa_5, sa_6, sa_7, sa_8, md_ic, up_us, up_up, xs_b, c_6, c_15]; done))), (by first | with_reducible rfl | (first | with_reducible rfl | (simp only [sa_ap, si_ap, si_sa, sa_sa, sa_3, sa_4, sa_5, sa_6, sa_7, sa_8, md_ic, up_us, up_up, xs_b, c_6, c_15]; done) | (simp [sa_ap, si_ap, si_sa, sa_sa, sa_3, sa_4, sa_5, sa_6, sa_7, sa_8, md_ic, up_us, up_up, xs_b, c_6, c_15]; done))), rfl, rfl⟩

set_option maxHeartbeats 400000 in
set_option maxRecDepth 100000 in
/-- hasLeft.hasLeft -/
theorem c_X11_hasLeft (l : Launch) (D : va_G) (cy : Nat → ClassId) (A : Nat → Prop) (ad sad : Nat → Nat) (X M : XF) (K : KF) : Met l yX11_hasLeft (wsA yX11_hasLeft cX11_hasLeft 1 (some .boolean)) ({ frames := 0, cells := 0, slots := 0, locals := 0 }) (PcW D cy A ad sad X M K [.ref (ad 42)]) (QiW D cy A ad (fun r X1 M1 K1 => r = md_hl (M 102 0) ∧ X1 = X ∧ M1 = M ∧ K1 = K)) 0 0 A := by
  refine met_ofW [(0, .ref (ad 42))] (by decide +kernel) (Nat.le_of_ble_eq_true rfl) rfl ?_
  intro G C hl hR hL hD hcy hA had hsa hr hQ
  subst hD hcy hA had hsa hl
  refine g_aload_n C dX11_hasLeft_0 0 rfl ?_
  refine gf_X11_state C tw1245 dX11_hasLeft_1 ?_
  refine g_bipush C dX11_hasLeft_4 (v := 102) (by decide) ?_
  refine g_icmp_eq C dX11_hasLeft_6 (tgt := 27) (by decide) (fun c_6 => ?_) (fun c_6 => ?_)
  · try simp only [sa_ap, si_ap, reduceIte, Nat.reduceEqDiff, up_us, lg_cmp_lt, lg_cmp_gt, lg_cmp_le, lg_cmp_ge] at c_6
    refine g_iconst C dX11_hasLeft_27 (v := 1) (by decide) ?_
    refine g_goto C dX11_hasLeft_28 (tgt := 32) (by decide) ?_
    refine g_zretW C hr (by decide) hQ (Nat.le_refl _) (Nat.le_refl _) dX11_hasLeft_32 ?_
    exact ⟨(by first | with_reducible rfl | (first | with_reducible rfl | (simp only [sa_ap, si_ap, si_sa, sa_sa, sa_3, sa_4, sa_5, sa_6, sa_7, sa_8, md_hl, up_us, up_up, xs_b, c_6]; done) | (simp [sa_ap, si_ap, si_sa, sa_sa, sa_3, sa_4, sa_5, sa_6, sa_7, sa_8, md_hl, up_us, up_up, xs_b, c_6]; done))), (by first | with_reducible rfl | (first | with_reducible rfl | (simp only [sa_ap, si_ap, si_sa, sa_sa, sa_3, sa_4, sa_5, sa_6, sa_7, sa_8, md_hl, up_us, up_up, xs_b, c_6]; done) | (simp [sa_ap, si_ap, si_sa, sa_sa, sa_3, sa_4, sa_5, sa_6, sa_7, sa_8, md_hl, up_us, up_up, xs_b, c_6]; done))), rfl, rfl⟩
  · try simp only [sa_ap, si_ap, reduceIte, Nat.reduceEqDiff, up_us, lg_cmp_lt, lg_cmp_gt, lg_cmp_le, lg_cmp_ge] at c_6
    refine g_aload_n C dX11_hasLeft_9 0 rfl ?_
    refine gf_X11_state C tw1245 dX11_hasLeft_10 ?_
    refine g_bipush C dX11_hasLeft_13 (v := 120) (by decide) ?_
    refine g_icmp_eq C dX11_hasLeft_15 (tgt := 27) (by decide) (fun c_15 => ?_) (fun c_15 => ?_)
    · try simp only [sa_ap, si_ap, reduceIte, Nat.reduceEqDiff, up_us, lg_cmp_lt, lg_cmp_gt, lg_cmp_le, lg_cmp_ge] at c_15
      refine g_iconst C dX11_hasLeft_27 (v := 1) (by decide) ?_
      refine g_goto C dX11_hasLeft_28 (tgt := 32) (by decide) ?_
      refine g_zretW C hr (by decide) hQ (Nat.le_refl _) (Nat.le_refl _) dX11_hasLeft_32 ?_
      exact ⟨(by first | with_reducible rfl | (first | with_reducible rfl | (simp only [sa_ap, si_ap, si_sa, sa_sa, sa_3, sa_4, sa_5, sa_6, sa_7, sa_8, md_hl, up_us, up_up, xs_b, c_6, c_15]; done) | (simp [sa_ap, si_ap, si_sa, sa_sa, sa_3, sa_4, sa_5, sa_6, sa_7, sa_8, md_hl, up_us, up_up, xs_b, c_6, c_15]; done))), (by first | with_reducible rfl | (first | with_reducible rfl | (simp only [sa_ap, si_ap, si_sa, sa_sa, sa_3, sa_4, sa_5, sa_6, sa_7, sa_8, md_hl, up_us, up_up, xs_b, c_6, c_15]; done) | (simp [sa_ap, si_ap, si_sa, sa_sa, sa_3, sa_4, sa_5, sa_6, sa_7, sa_8, md_hl, up_us, up_up, xs_b, c_6, c_15]; done))), rfl, rfl⟩
    · try simp only [sa_ap, si_ap, reduceIte, Nat.reduceEqDiff, up_us, lg_cmp_lt, lg_cmp_gt, lg_cmp_le, lg_cmp_ge] at c_15
      refine g_aload_n C dX11_hasLeft_18 0 rfl ?_
      refine gf_X11_state C tw1245 dX11_hasLeft_19 ?_
      refine g_bipush C dX11_hasLeft_22 (v := 111) (by decide) ?_
      refine g_icmp_ne C dX11_hasLeft_24 (tgt := 31) (by decide) (fun c_24 => ?_) (fun c_24 => ?_)
      · try simp only [sa_ap, si_ap, reduceIte, Nat.reduceEqDiff, up_us, lg_cmp_lt, lg_cmp_gt, lg_cmp_le, lg_cmp_ge] at c_24
        refine g_iconst C dX11_hasLeft_31 (v := 0) (by decide) ?_
        refine g_zretW C hr (by decide) hQ (Nat.le_refl _) (Nat.le_refl _) dX11_hasLeft_32 ?_
        exact ⟨(by first | with_reducible rfl | (first | with_reducible rfl | (simp only [sa_ap, si_ap, si_sa, sa_sa, sa_3, sa_4, sa_5, sa_6, sa_7, sa_8, md_hl, up_us, up_up, xs_b, c_6, c_15, c_24]; done) | (simp [sa_ap, si_ap, si_sa, sa_sa, sa_3, sa_4, sa_5, sa_6, sa_7, sa_8, md_hl, up_us, up_up, xs_b, c_6, c_15, c_24]; done))), (by first | with_reducible rfl | (first | with_reducible rfl | (simp only [sa_ap, si_ap, si_sa, sa_sa, sa_3, sa_4, sa_5, sa_6, sa_7, sa_8, md_hl, up_us, up_up, xs_b, c_6, c_15, c_24]; done) | (simp [sa_ap, si_ap, si_sa, sa_sa, sa_3, sa_4, sa_5, sa_6, sa_7, sa_8, md_hl, up_us, up_up, xs_b, c_6, c_15, c_24]; done))), rfl, rfl⟩
      · try simp only [sa_ap, si_ap, reduceIte, Nat.reduceEqDiff, up_us, lg_cmp_lt, lg_cmp_gt, lg_cmp_le, lg_cmp_ge] at c_24
        refine g_iconst C dX11_hasLeft_27 (v := 1) (by decide) ?_
        refine g_goto C dX11_hasLeft_28 (tgt := 32) (by decide) ?_
        refine g_zretW C hr (by decide) hQ (Nat.le_refl _) (Nat.le_refl _) dX11_hasLeft_32 ?_
        exact ⟨(by first | with_reducible rfl | (first | with_reducible rfl | (simp only [sa_ap, si_ap, si_sa, sa_sa, sa_3, sa_4, sa_5, sa_6, sa_7, sa_8, md_hl, up_us, up_up, xs_b, c_6, c_15, c_24]; done) | (simp [sa_ap, si_ap, si_sa, sa_sa, sa_3, sa_4, sa_5, sa_6, sa_7, sa_8, md_hl, up_us, up_up, xs_b, c_6, c_15, c_24]; done))), (by first | with_reducible rfl | (first | with_reducible rfl | (simp only [sa_ap, si_ap, si_sa, sa_sa, sa_3, sa_4, sa_5, sa_6, sa_7, sa_8, md_hl, up_us, up_up, xs_b, c_6, c_15, c_24]; done) | (simp [sa_ap, si_ap, si_sa, sa_sa, sa_3, sa_4, sa_5, sa_6, sa_7, sa_8, md_hl, up_us, up_up, xs_b, c_6, c_15, c_24]; done))), rfl, rfl⟩

set_option maxHeartbeats 400000 in
set_option maxRecDepth 100000 in
/-- hasCause.hasCause -/
theorem c_X11_hasCause (l : Launch) (D : va_G) (cy : Nat → ClassId) (A : Nat → Prop) (ad sad : Nat → Nat) (X M : XF) (K : KF) : Met l yX11_hasCause (wsA yX11_hasCause cX11_hasCause 1 (some .boolean)) ({ frames := 0, cells := 0, slots := 0, locals := 0 }) (PcW D cy A ad sad X M K [.ref (ad 42)]) (QiW D cy A ad (fun r X1 M1 K1 => r = md_hc (M 102 0) ∧ X1 = X ∧ M1 = M ∧ K1 = K)) 0 0 A := by
  refine met_ofW [(0, .ref (ad 42))] (by decide +kernel) (Nat.le_of_ble_eq_true rfl) rfl ?_
  intro G C hl hR hL hD hcy hA had hsa hr hQ
  subst hD hcy hA had hsa hl
  refine g_aload_n C dX11_hasCause_0 0 rfl ?_
  refine gf_X11_state C tw1245 dX11_hasCause_1 ?_
  refine g_bipush C dX11_hasCause_4 (v := 104) (by decide) ?_
  refine g_icmp_eq C dX11_hasCause_6 (tgt := 27) (by decide) (fun c_6 => ?_) (fun c_6 => ?_)
  · try simp only [sa_ap, si_ap, reduceIte, Nat.reduceEqDiff, up_us, lg_cmp_lt, lg_cmp_gt, lg_cmp_le, lg_cmp_ge] at c_6
    refine g_iconst C dX11_hasCause_27 (v := 1) (by decide) ?_
    refine g_goto C dX11_hasCause_28 (tgt := 32) (by decide) ?_
    refine g_zretW C hr (by decide) hQ (Nat.le_refl _) (Nat.le_refl _) dX11_hasCause_32 ?_
    exact ⟨(by first | with_reducible rfl | (first | with_reducible rfl | (simp only [sa_ap, si_ap, si_sa, sa_sa, sa_3, sa_4, sa_5, sa_6, sa_7, sa_8, md_hc, up_us, up_up, xs_b, c_6]; done) | (simp [sa_ap, si_ap, si_sa, sa_sa, sa_3, sa_4, sa_5, sa_6, sa_7, sa_8, md_hc, up_us, up_up, xs_b, c_6]; done))), (by first | with_reducible rfl | (first | with_reducible rfl | (simp only [sa_ap, si_ap, si_sa, sa_sa, sa_3, sa_4, sa_5, sa_6, sa_7, sa_8, md_hc, up_us, up_up, xs_b, c_6]; done) | (simp [sa_ap, si_ap, si_sa, sa_sa, sa_3, sa_4, sa_5, sa_6, sa_7, sa_8, md_hc, up_us, up_up, xs_b, c_6]; done))), rfl, rfl⟩
  · try simp only [sa_ap, si_ap, reduceIte, Nat.reduceEqDiff, up_us, lg_cmp_lt, lg_cmp_gt, lg_cmp_le, lg_cmp_ge] at c_6
    refine g_aload_n C dX11_hasCause_9 0 rfl ?_
    refine gf_X11_state C tw1245 dX11_hasCause_10 ?_
    refine g_bipush C dX11_hasCause_13 (v := 115) (by decide) ?_
    refine g_icmp_eq C dX11_hasCause_15 (tgt := 27) (by decide) (fun c_15 => ?_) (fun c_15 => ?_)
    · try simp only [sa_ap, si_ap, reduceIte, Nat.reduceEqDiff, up_us, lg_cmp_lt, lg_cmp_gt, lg_cmp_le, lg_cmp_ge] at c_15
      refine g_iconst C dX11_hasCause_27 (v := 1) (by decide) ?_
      refine g_goto C dX11_hasCause_28 (tgt := 32) (by decide) ?_
      refine g_zretW C hr (by decide) hQ (Nat.le_refl _) (Nat.le_refl _) dX11_hasCause_32 ?_
      exact ⟨(by first | with_reducible rfl | (first | with_reducible rfl | (simp only [sa_ap, si_ap, si_sa, sa_sa, sa_3, sa_4, sa_5, sa_6, sa_7, sa_8, md_hc, up_us, up_up, xs_b, c_6, c_15]; done) | (simp [sa_ap, si_ap, si_sa, sa_sa, sa_3, sa_4, sa_5, sa_6, sa_7, sa_8, md_hc, up_us, up_up, xs_b, c_6, c_15]; done))), (by first | with_reducible rfl | (first | with_reducible rfl | (simp only [sa_ap, si_ap, si_sa, sa_sa, sa_3, sa_4, sa_5, sa_6, sa_7, sa_8, md_hc, up_us, up_up, xs_b, c_6, c_15]; done) | (simp [sa_ap, si_ap, si_sa, sa_sa, sa_3, sa_4, sa_5, sa_6, sa_7, sa_8, md_hc, up_us, up_up, xs_b, c_6, c_15]; done))), rfl, rfl⟩
    · try simp only [sa_ap, si_ap, reduceIte, Nat.reduceEqDiff, up_us, lg_cmp_lt, lg_cmp_gt, lg_cmp_le, lg_cmp_ge] at c_15
      refine g_aload_n C dX11_hasCause_18 0 rfl ?_
      refine gf_X11_state C tw1245 dX11_hasCause_19 ?_
      refine g_bipush C dX11_hasCause_22 (v := 120) (by decide) ?_
      refine g_icmp_ne C dX11_hasCause_24 (tgt := 31) (by decide) (fun c_24 => ?_) (fun c_24 => ?_)
      · try simp only [sa_ap, si_ap, reduceIte, Nat.reduceEqDiff, up_us, lg_cmp_lt, lg_cmp_gt, lg_cmp_le, lg_cmp_ge] at c_24
        refine g_iconst C dX11_hasCause_31 (v := 0) (by decide) ?_
        refine g_zretW C hr (by decide) hQ (Nat.le_refl _) (Nat.le_refl _) dX11_hasCause_32 ?_
        exact ⟨(by first | with_reducible rfl | (first | with_reducible rfl | (simp only [sa_ap, si_ap, si_sa, sa_sa, sa_3, sa_4, sa_5, sa_6, sa_7, sa_8, md_hc, up_us, up_up, xs_b, c_6, c_15, c_24]; done) | (simp [sa_ap, si_ap, si_sa, sa_sa, sa_3, sa_4, sa_5, sa_6, sa_7, sa_8, md_hc, up_us, up_up, xs_b, c_6, c_15, c_24]; done))), (by first | with_reducible rfl | (first | with_reducible rfl | (simp only [sa_ap, si_ap, si_sa, sa_sa, sa_3, sa_4, sa_5, sa_6, sa_7, sa_8, md_hc, up_us, up_up, xs_b, c_6, c_15, c_24]; done) | (simp [sa_ap, si_ap, si_sa, sa_sa, sa_3, sa_4, sa_5, sa_6, sa_7, sa_8, md_hc, up_us, up_up, xs_b, c_6, c_15, c_24]; done))), rfl, rfl⟩
      · try simp only [sa_ap, si_ap, reduceIte, Nat.reduceEqDiff, up_us, lg_cmp_lt, lg_cmp_gt, lg_cmp_le, lg_cmp_ge] at c_24
        refine g_iconst C dX11_hasCause_27 (v := 1) (by decide) ?_
        refine g_goto C dX11_hasCause_28 (tgt := 32) (by decide) ?_
        refine g_zretW C hr (by decide) hQ (Nat.le_refl _) (Nat.le_refl _) dX11_hasCause_32 ?_
        exact ⟨(by first | with_reducible rfl | (first | with_reducible rfl | (simp only [sa_ap, si_ap, si_sa, sa_sa, sa_3, sa_4, sa_5, sa_6, sa_7, sa_8, md_hc, up_us, up_up, xs_b, c_6, c_15, c_24]; done) | (simp [sa_ap, si_ap, si_sa, sa_sa, sa_3, sa_4, sa_5, sa_6, sa_7, sa_8, md_hc, up_us, up_up, xs_b, c_6, c_15, c_24]; done))), (by first | with_reducible rfl | (first | with_reducible rfl | (simp only [sa_ap, si_ap, si_sa, sa_sa, sa_3, sa_4, sa_5, sa_6, sa_7, sa_8, md_hc, up_us, up_up, xs_b, c_6, c_15, c_24]; done) | (simp [sa_ap, si_ap, si_sa, sa_sa, sa_3, sa_4, sa_5, sa_6, sa_7, sa_8, md_hc, up_us, up_up, xs_b, c_6, c_15, c_24]; done))), rfl, rfl⟩

set_option maxHeartbeats 400000 in
set_option maxRecDepth 100000 in
/-- thrown.thrown -/
theorem c_X11_thrown (l : Launch) (D : va_G) (cy : Nat → ClassId) (A : Nat → Prop) (ad sad : Nat → Nat) (X M : XF) (K : KF) : Met l yX11_thrown (wsA yX11_thrown cX11_thrown 1 (some .int)) ({ frames := 0, cells := 0, slots := 0, locals := 0 }) (PcW D cy A ad sad X M K [.ref (ad 42)]) (QiW D cy A ad (fun r X1 M1 K1 => r = M 100 0 ∧ X1 = X ∧ M1 = M ∧ K1 = K)) 0 0 A := by
  refine met_ofW [(0, .ref (ad 42))] (by decide +kernel) (Nat.le_of_ble_eq_true rfl) rfl ?_
  intro G C hl hR hL hD hcy hA had hsa hr hQ
  subst hD hcy hA had hsa hl
  refine g_aload_n C dX11_thrown_0 0 rfl ?_
  refine gf_X11_thrown C tw1243 dX11_thrown_1 ?_
  refine g_iretW C hr hQ (Nat.le_refl _) (Nat.le_refl _) dX11_thrown_4 ?_
  exact ⟨(by first | with_reducible rfl | (first | with_reducible rfl | (simp only [sa_ap, si_ap, si_sa, sa_sa, sa_3, sa_4, sa_5, sa_6, sa_7, sa_8, up_us, up_up, xs_b]; done) | (simp [sa_ap, si_ap, si_sa, sa_sa, sa_3, sa_4, sa_5, sa_6, sa_7, sa_8, up_us, up_up, xs_b]; done))), (by first | with_reducible rfl | (first | with_reducible rfl | (simp only [sa_ap, si_ap, si_sa, sa_sa, sa_3, sa_4, sa_5, sa_6, sa_7, sa_8, up_us, up_up, xs_b]; done) | (simp [sa_ap, si_ap, si_sa, sa_sa, sa_3, sa_4, sa_5, sa_6, sa_7, sa_8, up_us, up_up, xs_b]; done))), rfl, rfl⟩

set_option maxHeartbeats 400000 in
set_option maxRecDepth 100000 in
/-- noTank.noTank -/
theorem c_X11_noTank (l : Launch) (D : va_G) (cy : Nat → ClassId) (A : Nat → Prop) (ad sad : Nat → Nat) (X M : XF) (K : KF) (p1 : Int32) : Met l yX11_noTank (wsA yX11_noTank cX11_noTank 1 (some .boolean)) ({ frames := 1, cells := 0, slots := 0, locals := 25 }) (PcW D cy A ad sad X M K [.int p1]) (QiW D cy A ad (fun r X1 M1 K1 => r = md_nt p1 ∧ X1 = X ∧ M1 = M ∧ K1 = K)) 0 0 A := by
  refine met_ofW [(0, .int p1)] (by decide +kernel) (Nat.le_of_ble_eq_true rfl) rfl ?_
  intro G C hl hR hL hD hcy hA had hsa hr hQ
  subst hD hcy hA had hsa hl
  refine g_iload_n C dX11_noTank_0 0 rfl ?_
  refine g_i2l C dX11_noTank_1 ?_
  refine g_lconst C dX11_noTank_2 (v := 0) (by decide) ?_
  refine g_ldc2 C dX11_noTank_3 tw1405 ?_
  refine g_callSiW C dX11_noTank_6 (c_X11_in _ _ _ _ _ _ _ _ _ _ _ _) tw1406 tw1407 tw16 tw1408 rfl ⟨by decide +kernel, by decide +kernel, rfl⟩ ⟨rfl, rfl⟩ (by rw [hR]; decide) (Nat.le_of_ble_eq_true rfl) (by rw [hR]; decide) (fun r_1 X1 M1 K1 h_2 => ?_)
  obtain ⟨er_1, hX1, hM1, hK1⟩ := h_2
  subst X1 M1 K1
  try simp only [sa_ap, si_ap, reduceIte, Nat.reduceEqDiff] at er_1
  refine g_if_ne C dX11_noTank_9 (tgt := 16) (by decide) (fun c_9 => ?_) (fun c_9 => ?_)
  · try simp only [sa_ap, si_ap, reduceIte, Nat.reduceEqDiff, up_us, lg_cmp_lt, lg_cmp_gt, lg_cmp_le, lg_cmp_ge] at c_9
    refine g_iconst C dX11_noTank_16 (v := 0) (by decide) ?_
    refine g_zretW C hr (by decide) hQ (Nat.le_refl _) (Nat.le_refl _) dX11_noTank_17 ?_
    exact ⟨(by first | with_reducible rfl | (subst er_1; first | with_reducible rfl | (simp only [sa_ap, si_ap, si_sa, sa_sa, sa_3, sa_4, sa_5, sa_6, sa_7, sa_8, md_nt, up_us, up_up, xs_b, c_9]; done) | (simp [sa_ap, si_ap, si_sa, sa_sa, sa_3, sa_4, sa_5, sa_6, sa_7, sa_8, md_nt, up_us, up_up, xs_b, c_9]; done))), (by first | with_reducible rfl | (subst er_1; first | with_reducible rfl | (simp only [sa_ap, si_ap, si_sa, sa_sa, sa_3, sa_4, sa_5, sa_6, sa_7, sa_8, md_nt, up_us, up_up, xs_b, c_9]; done) | (simp [sa_ap, si_ap, si_sa, sa_sa, sa_3, sa_4, sa_5, sa_6, sa_7, sa_8, md_nt, up_us, up_up, xs_b, c_9]; done))), rfl, rfl⟩
  · try simp only [sa_ap, si_ap, reduceIte, Nat.reduceEqDiff, up_us, lg_cmp_lt, lg_cmp_gt, lg_cmp_le, lg_cmp_ge] at c_9
    refine g_iconst C dX11_noTank_12 (v := 1) (by decide) ?_
    refine g_goto C dX11_noTank_13 (tgt := 17) (by decide) ?_
    refine g_zretW C hr (by decide) hQ (Nat.le_refl _) (Nat.le_refl _) dX11_noTank_17 ?_
    exact ⟨(by first | with_reducible rfl | (subst er_1; first | with_reducible rfl | (simp only [sa_ap, si_ap, si_sa, sa_sa, sa_3, sa_4, sa_5, sa_6, sa_7, sa_8, md_nt, up_us, up_up, xs_b, c_9]; done) | (simp [sa_ap, si_ap, si_sa, sa_sa, sa_3, sa_4, sa_5, sa_6, sa_7, sa_8, md_nt, up_us, up_up, xs_b, c_9]; done))), (by first | with_reducible rfl | (subst er_1; first | with_reducible rfl | (simp only [sa_ap, si_ap, si_sa, sa_sa, sa_3, sa_4, sa_5, sa_6, sa_7, sa_8, md_nt, up_us, up_up, xs_b, c_9]; done) | (simp [sa_ap, si_ap, si_sa, sa_sa, sa_3, sa_4, sa_5, sa_6, sa_7, sa_8, md_nt, up_us, up_up, xs_b, c_9]; done))), rfl, rfl⟩

set_option maxHeartbeats 400000 in
set_option maxRecDepth 100000 in
/-- noConsole.noConsole -/
theorem c_X11_noConsole (l : Launch) (D : va_G) (cy : Nat → ClassId) (A : Nat → Prop) (ad sad : Nat → Nat) (X M : XF) (K : KF) (p1 : Int32) : Met l yX11_noConsole (wsA yX11_noConsole cX11_noConsole 1 (some .boolean)) ({ frames := 1, cells := 0, slots := 0, locals := 25 }) (PcW D cy A ad sad X M K [.int p1]) (QiW D cy A ad (fun r X1 M1 K1 => r = md_nc p1 ∧ X1 = X ∧ M1 = M ∧ K1 = K)) 0 0 A := by
  refine met_ofW [(0, .int p1)] (by decide +kernel) (Nat.le_of_ble_eq_true rfl) rfl ?_
  intro G C hl hR hL hD hcy hA had hsa hr hQ
  subst hD hcy hA had hsa hl
  refine g_iload_n C dX11_noConsole_0 0 rfl ?_
  refine g_i2l C dX11_noConsole_1 ?_
  refine g_lconst C dX11_noConsole_2 (v := 0) (by decide) ?_
  refine g_ldc2 C dX11_noConsole_3 tw1573 ?_
  refine g_callSiW C dX11_noConsole_6 (c_X11_in _ _ _ _ _ _ _ _ _ _ _ _) tw1406 tw1407 tw16 tw1408 rfl ⟨by decide +kernel, by decide +kernel, rfl⟩ ⟨rfl, rfl⟩ (by rw [hR]; decide) (Nat.le_of_ble_eq_true rfl) (by rw [hR]; decide) (fun r_1 X1 M1 K1 h_2 => ?_)
  obtain ⟨er_1, hX1, hM1, hK1⟩ := h_2
  subst X1 M1 K1
  try simp only [sa_ap, si_ap, reduceIte, Nat.reduceEqDiff] at er_1
  refine g_if_ne C dX11_noConsole_9 (tgt := 16) (by decide) (fun c_9 => ?_) (fun c_9 => ?_)
  · try simp only [sa_ap, si_ap, reduceIte, Nat.reduceEqDiff, up_us, lg_cmp_lt, lg_cmp_gt, lg_cmp_le, lg_cmp_ge] at c_9
    refine g_iconst C dX11_noConsole_16 (v := 0) (by decide) ?_
    refine g_zretW C hr (by decide) hQ (Nat.le_refl _) (Nat.le_refl _) dX11_noConsole_17 ?_
    exact ⟨(by first | with_reducible rfl | (subst er_1; first | with_reducible rfl | (simp only [sa_ap, si_ap, si_sa, sa_sa, sa_3, sa_4, sa_5, sa_6, sa_7, sa_8, md_nc, up_us, up_up, xs_b, c_9]; done) | (simp [sa_ap, si_ap, si_sa, sa_sa, sa_3, sa_4, sa_5, sa_6, sa_7, sa_8, md_nc, up_us, up_up, xs_b, c_9]; done))), (by first | with_reducible rfl | (subst er_1; first | with_reducible rfl | (simp only [sa_ap, si_ap, si_sa, sa_sa, sa_3, sa_4, sa_5, sa_6, sa_7, sa_8, md_nc, up_us, up_up, xs_b, c_9]; done) | (simp [sa_ap, si_ap, si_sa, sa_sa, sa_3, sa_4, sa_5, sa_6, sa_7, sa_8, md_nc, up_us, up_up, xs_b, c_9]; done))), rfl, rfl⟩
  · try simp only [sa_ap, si_ap, reduceIte, Nat.reduceEqDiff, up_us, lg_cmp_lt, lg_cmp_gt, lg_cmp_le, lg_cmp_ge] at c_9
    refine g_iconst C dX11_noConsole_12 (v := 1) (by decide) ?_
    refine g_goto C dX11_noConsole_13 (tgt := 17) (by decide) ?_
    refine g_zretW C hr (by decide) hQ (Nat.le_refl _) (Nat.le_refl _) dX11_noConsole_17 ?_
    exact ⟨(by first | with_reducible rfl | (subst er_1; first | with_reducible rfl | (simp only [sa_ap, si_ap, si_sa, sa_sa, sa_3, sa_4, sa_5, sa_6, sa_7, sa_8, md_nc, up_us, up_up, xs_b, c_9]; done) | (simp [sa_ap, si_ap, si_sa, sa_sa, sa_3, sa_4, sa_5, sa_6, sa_7, sa_8, md_nc, up_us, up_up, xs_b, c_9]; done))), (by first | with_reducible rfl | (subst er_1; first | with_reducible rfl | (simp only [sa_ap, si_ap, si_sa, sa_sa, sa_3, sa_4, sa_5, sa_6, sa_7, sa_8, md_nc, up_us, up_up, xs_b, c_9]; done) | (simp [sa_ap, si_ap, si_sa, sa_sa, sa_3, sa_4, sa_5, sa_6, sa_7, sa_8, md_nc, up_us, up_up, xs_b, c_9]; done))), rfl, rfl⟩

set_option maxHeartbeats 400000 in
set_option maxRecDepth 100000 in
/-- noStep.noStep -/
theorem c_X11_noStep (l : Launch) (D : va_G) (cy : Nat → ClassId) (A : Nat → Prop) (ad sad : Nat → Nat) (X M : XF) (K : KF) (p1 : Int32) : Met l yX11_noStep (wsA yX11_noStep cX11_noStep 2 (some .boolean)) ({ frames := 1, cells := 0, slots := 0, locals := 25 }) (PcW D cy A ad sad X M K [.ref (ad 42), .int p1]) (QiW D cy A ad (fun r X1 M1 K1 => r = md_no p1 (M 113 0) ∧ X1 = X ∧ M1 = M ∧ K1 = K)) 0 0 A := by
  refine met_ofW [(0, .ref (ad 42)), (1, .int p1)] (by decide +kernel) (Nat.le_of_ble_eq_true rfl) rfl ?_
  intro G C hl hR hL hD hcy hA had hsa hr hQ
  subst hD hcy hA had hsa hl
  refine g_iload_n C dX11_noStep_0 1 rfl ?_
  refine g_i2l C dX11_noStep_1 ?_
  refine g_lconst C dX11_noStep_2 (v := 0) (by decide) ?_
  refine g_aload_n C dX11_noStep_3 0 rfl ?_
  refine gf_X11_steps C tw1263 dX11_noStep_4 ?_
  refine g_iconst C dX11_noStep_7 (v := 1) (by decide) ?_
  refine g_isub C dX11_noStep_8 ?_
  refine g_i2l C dX11_noStep_9 ?_
  refine g_callSiW C dX11_noStep_10 (c_X11_in _ _ _ _ _ _ _ _ _ _ _ _) tw1406 tw1407 tw16 tw1408 rfl ⟨by decide +kernel, by decide +kernel, rfl⟩ ⟨rfl, rfl⟩ (by rw [hR]; decide) (Nat.le_of_ble_eq_true rfl) (by rw [hR]; decide) (fun r_1 X1 M1 K1 h_2 => ?_)
  obtain ⟨er_1, hX1, hM1, hK1⟩ := h_2
  subst X1 M1 K1
  try simp only [sa_ap, si_ap, reduceIte, Nat.reduceEqDiff] at er_1
  refine g_if_ne C dX11_noStep_13 (tgt := 20) (by decide) (fun c_13 => ?_) (fun c_13 => ?_)
  · try simp only [sa_ap, si_ap, reduceIte, Nat.reduceEqDiff, up_us, lg_cmp_lt, lg_cmp_gt, lg_cmp_le, lg_cmp_ge] at c_13
    refine g_iconst C dX11_noStep_20 (v := 0) (by decide) ?_
    refine g_zretW C hr (by decide) hQ (Nat.le_refl _) (Nat.le_refl _) dX11_noStep_21 ?_
    exact ⟨(by first | with_reducible rfl | (subst er_1; first | with_reducible rfl | (simp only [sa_ap, si_ap, si_sa, sa_sa, sa_3, sa_4, sa_5, sa_6, sa_7, sa_8, md_no, up_us, up_up, xs_b, c_13]; done) | (simp [sa_ap, si_ap, si_sa, sa_sa, sa_3, sa_4, sa_5, sa_6, sa_7, sa_8, md_no, up_us, up_up, xs_b, c_13]; done))), (by first | with_reducible rfl | (subst er_1; first | with_reducible rfl | (simp only [sa_ap, si_ap, si_sa, sa_sa, sa_3, sa_4, sa_5, sa_6, sa_7, sa_8, md_no, up_us, up_up, xs_b, c_13]; done) | (simp [sa_ap, si_ap, si_sa, sa_sa, sa_3, sa_4, sa_5, sa_6, sa_7, sa_8, md_no, up_us, up_up, xs_b, c_13]; done))), rfl, rfl⟩
  · try simp only [sa_ap, si_ap, reduceIte, Nat.reduceEqDiff, up_us, lg_cmp_lt, lg_cmp_gt, lg_cmp_le, lg_cmp_ge] at c_13
    refine g_iconst C dX11_noStep_16 (v := 1) (by decide) ?_
    refine g_goto C dX11_noStep_17 (tgt := 21) (by decide) ?_
    refine g_zretW C hr (by decide) hQ (Nat.le_refl _) (Nat.le_refl _) dX11_noStep_21 ?_
    exact ⟨(by first | with_reducible rfl | (subst er_1; first | with_reducible rfl | (simp only [sa_ap, si_ap, si_sa, sa_sa, sa_3, sa_4, sa_5, sa_6, sa_7, sa_8, md_no, up_us, up_up, xs_b, c_13]; done) | (simp [sa_ap, si_ap, si_sa, sa_sa, sa_3, sa_4, sa_5, sa_6, sa_7, sa_8, md_no, up_us, up_up, xs_b, c_13]; done))), (by first | with_reducible rfl | (subst er_1; first | with_reducible rfl | (simp only [sa_ap, si_ap, si_sa, sa_sa, sa_3, sa_4, sa_5, sa_6, sa_7, sa_8, md_no, up_us, up_up, xs_b, c_13]; done) | (simp [sa_ap, si_ap, si_sa, sa_sa, sa_3, sa_4, sa_5, sa_6, sa_7, sa_8, md_no, up_us, up_up, xs_b, c_13]; done))), rfl, rfl⟩

set_option maxHeartbeats 400000 in
set_option maxRecDepth 100000 in
/-- noRule.noRule -/
theorem c_X11_noRule (l : Launch) (D : va_G) (cy : Nat → ClassId) (A : Nat → Prop) (ad sad : Nat → Nat) (X M : XF) (K : KF) (p1 : Int32) : Met l yX11_noRule (wsA yX11_noRule cX11_noRule 2 (some .boolean)) ({ frames := 1, cells := 0, slots := 0, locals := 25 }) (PcW D cy A ad sad X M K [.ref (ad 42), .int p1]) (QiW D cy A ad (fun r X1 M1 K1 => r = md_no p1 (M 117 0) ∧ X1 = X ∧ M1 = M ∧ K1 = K)) 0 0 A := by
  refine met_ofW [(0, .ref (ad 42)), (1, .int p1)] (by decide +kernel) (Nat.le_of_ble_eq_true rfl) rfl ?_
  intro G C hl hR hL hD hcy hA had hsa hr hQ
  subst hD hcy hA had hsa hl
  refine g_iload_n C dX11_noRule_0 1 rfl ?_
  refine g_i2l C dX11_noRule_1 ?_
  refine g_lconst C dX11_noRule_2 (v := 0) (by decide) ?_
  refine g_aload_n C dX11_noRule_3 0 rfl ?_
  refine gf_X11_rules C tw1282 dX11_noRule_4 ?_
  refine g_iconst C dX11_noRule_7 (v := 1) (by decide) ?_
  refine g_isub C dX11_noRule_8 ?_
  refine g_i2l C dX11_noRule_9 ?_
  refine g_callSiW C dX11_noRule_10 (c_X11_in _ _ _ _ _ _ _ _ _ _ _ _) tw1406 tw1407 tw16 tw1408 rfl ⟨by decide +kernel, by decide +kernel, rfl⟩ ⟨rfl, rfl⟩ (by rw [hR]; decide) (Nat.le_of_ble_eq_true rfl) (by rw [hR]; decide) (fun r_1 X1 M1 K1 h_2 => ?_)
  obtain ⟨er_1, hX1, hM1, hK1⟩ := h_2
  subst X1 M1 K1
  try simp only [sa_ap, si_ap, reduceIte, Nat.reduceEqDiff] at er_1
  refine g_if_ne C dX11_noRule_13 (tgt := 20) (by decide) (fun c_13 => ?_) (fun c_13 => ?_)
  · try simp only [sa_ap, si_ap, reduceIte, Nat.reduceEqDiff, up_us, lg_cmp_lt, lg_cmp_gt, lg_cmp_le, lg_cmp_ge] at c_13
    refine g_iconst C dX11_noRule_20 (v := 0) (by decide) ?_
    refine g_zretW C hr (by decide) hQ (Nat.le_refl _) (Nat.le_refl _) dX11_noRule_21 ?_
    exact ⟨(by first | with_reducible rfl | (subst er_1; first | with_reducible rfl | (simp only [sa_ap, si_ap, si_sa, sa_sa, sa_3, sa_4, sa_5, sa_6, sa_7, sa_8, md_no, up_us, up_up, xs_b, c_13]; done) | (simp [sa_ap, si_ap, si_sa, sa_sa, sa_3, sa_4, sa_5, sa_6, sa_7, sa_8, md_no, up_us, up_up, xs_b, c_13]; done))), (by first | with_reducible rfl | (subst er_1; first | with_reducible rfl | (simp only [sa_ap, si_ap, si_sa, sa_sa, sa_3, sa_4, sa_5, sa_6, sa_7, sa_8, md_no, up_us, up_up, xs_b, c_13]; done) | (simp [sa_ap, si_ap, si_sa, sa_sa, sa_3, sa_4, sa_5, sa_6, sa_7, sa_8, md_no, up_us, up_up, xs_b, c_13]; done))), rfl, rfl⟩
  · try simp only [sa_ap, si_ap, reduceIte, Nat.reduceEqDiff, up_us, lg_cmp_lt, lg_cmp_gt, lg_cmp_le, lg_cmp_ge] at c_13
    refine g_iconst C dX11_noRule_16 (v := 1) (by decide) ?_
    refine g_goto C dX11_noRule_17 (tgt := 21) (by decide) ?_
    refine g_zretW C hr (by decide) hQ (Nat.le_refl _) (Nat.le_refl _) dX11_noRule_21 ?_
    exact ⟨(by first | with_reducible rfl | (subst er_1; first | with_reducible rfl | (simp only [sa_ap, si_ap, si_sa, sa_sa, sa_3, sa_4, sa_5, sa_6, sa_7, sa_8, md_no, up_us, up_up, xs_b, c_13]; done) | (simp [sa_ap, si_ap, si_sa, sa_sa, sa_3, sa_4, sa_5, sa_6, sa_7, sa_8, md_no, up_us, up_up, xs_b, c_13]; done))), (by first | with_reducible rfl | (subst er_1; first | with_reducible rfl | (simp only [sa_ap, si_ap, si_sa, sa_sa, sa_3, sa_4, sa_5, sa_6, sa_7, sa_8, md_no, up_us, up_up, xs_b, c_13]; done) | (simp [sa_ap, si_ap, si_sa, sa_sa, sa_3, sa_4, sa_5, sa_6, sa_7, sa_8, md_no, up_us, up_up, xs_b, c_13]; done))), rfl, rfl⟩

set_option maxHeartbeats 400000 in
set_option maxRecDepth 100000 in
/-- setTank.setTank -/
theorem c_X11_setTank (l : Launch) (D : va_G) (cy : Nat → ClassId) (A : Nat → Prop) (ad sad : Nat → Nat) (X M : XF) (K : KF) (p1 p2 p3 p4 : Int32) : Met l yX11_setTank (wsA yX11_setTank cX11_setTank 5 (some .int)) ({ frames := 2, cells := 0, slots := 0, locals := 45 }) (PcW D cy A ad sad X M K [.ref (ad 42), .int p1, .int p2, .int p3, .int p4]) (QiW D cy A ad (fun r X1 M1 K1 => r = (if xs_tank p1 p2 p3 p4 = 0 then tk_min (M 46 p1.toNatClampNeg) p2 else 0) ∧ X1 = X ∧ M1 = (if xs_tank p1 p2 p3 p4 = 0 then sa (sa (sa (sa (si M 100 0) 43 (upd (M 43) p1.toNatClampNeg p2)) 44 (upd (M 44) p1.toNatClampNeg p3)) 45 (upd (M 45) p1.toNatClampNeg p4)) 46 (upd (M 46) p1.toNatClampNeg (tk_min (M 46 p1.toNatClampNeg) p2)) else si M 100 (xs_tank p1 p2 p3 p4)) ∧ K1 = K)) 0 0 A := by
  refine met_ofW [(0, .ref (ad 42)), (1, .int p1), (2, .int p2), (3, .int p3), (4, .int p4)] (by decide +kernel) (Nat.le_of_ble_eq_true rfl) rfl ?_
  intro G C hl hR hL hD hcy hA had hsa hr hQ
  subst hD hcy hA had hsa hl
  refine g_aload_n C dX11_setTank_0 0 rfl ?_
  refine g_iconst C dX11_setTank_1 (v := 0) (by decide) ?_
  refine pf_X11_thrown C tw1243 dX11_setTank_2 ?_
  refine g_aload_n C dX11_setTank_5 0 rfl ?_
  refine g_iload_n C dX11_setTank_6 1 rfl ?_
  refine g_callSiW C dX11_setTank_7 (c_X11_noTank _ _ _ _ _ _ _ _ _ _) tw1402 tw1403 tw16 tw1404 rfl ⟨by decide +kernel, by decide +kernel, rfl⟩ ⟨rfl, rfl⟩ (by rw [hR]; decide) (Nat.le_of_ble_eq_true rfl) (by rw [hR]; decide) (fun r_1 X1 M1 K1 h_2 => ?_)
  obtain ⟨er_1, hX1, hM1, hK1⟩ := h_2
  subst X1 M1 K1
  try simp only [sa_ap, si_ap, reduceIte, Nat.reduceEqDiff] at er_1
  refine g_if_ne C dX11_setTank_10 (tgt := 50) (by decide) (fun c_10 => ?_) (fun c_10 => ?_)
  · try simp only [sa_ap, si_ap, reduceIte, Nat.reduceEqDiff, up_us, lg_cmp_lt, lg_cmp_gt, lg_cmp_le, lg_cmp_ge] at c_10
    refine g_iconst C dX11_setTank_50 (v := 1) (by decide) ?_
    refine g_goto C dX11_setTank_51 (tgt := 55) (by decide) ?_
    refine g_iconst C dX11_setTank_55 (v := 1) (by decide) ?_
    refine g_callViW C dX11_setTank_56 (c_X11_fails_1 _ _ _ _ _ _ _ _ _ _ (by rfl) (by decide)) tw1412 tw1414 tp14 tw16 tw1415 (rv_X11 C) rfl ⟨by decide +kernel, by decide +kernel, rfl⟩ ⟨rfl, rfl⟩ (by rw [hR]; decide) (Nat.le_of_ble_eq_true rfl) (by rw [hR]; decide) (fun r_3 X1 M1 K1 h_4 => ?_)
    obtain ⟨rfl, hX1, hM1, hK1⟩ := h_4
    subst X1 M1 K1
    refine g_if_eq C dX11_setTank_59 (tgt := 64) (by decide) (fun c_59 => absurd c_59 (by decide)) (fun c_59 => ?_)
    refine g_iconst C dX11_setTank_62 (v := 0) (by decide) ?_
    refine g_iretW C hr hQ (Nat.le_refl _) (Nat.le_refl _) dX11_setTank_63 ?_
    exact ⟨(by first | with_reducible rfl | (subst er_1; first | with_reducible rfl | (simp only [sa_ap, si_ap, si_sa, sa_sa, sa_3, sa_4, sa_5, sa_6, sa_7, sa_8, xs_tank, up_us, up_up, xs_b, c_10]; done) | (simp [sa_ap, si_ap, si_sa, sa_sa, sa_3, sa_4, sa_5, sa_6, sa_7, sa_8, xs_tank, up_us, up_up, xs_b, c_10]; done))), rfl, (by first | with_reducible rfl | (subst er_1; first | with_reducible rfl | (simp only [sa_ap, si_ap, si_sa, sa_sa, sa_3, sa_4, sa_5, sa_6, sa_7, sa_8, xs_tank, up_us, up_up, xs_b, c_10]; done) | (simp [sa_ap, si_ap, si_sa, sa_sa, sa_3, sa_4, sa_5, sa_6, sa_7, sa_8, xs_tank, up_us, up_up, xs_b, c_10]; done))), rfl⟩
  · try simp only [sa_ap, si_ap, reduceIte, Nat.reduceEqDiff, up_us, lg_cmp_lt, lg_cmp_gt, lg_cmp_le, lg_cmp_ge] at c_10
    obtain ⟨j, hj, rfl⟩ := md_nt_ix (p := p1) (by rw [← er_1]; exact c_10)
    have c_clj : (nI j).toNatClampNeg = j := nI_clamp (by omega)
    refine g_iload_n C dX11_setTank_13 2 rfl ?_
    refine g_i2l C dX11_setTank_14 ?_
    refine g_lconst C dX11_setTank_15 (v := 0) (by decide) ?_
    refine g_ldc2 C dX11_setTank_16 tw1409 ?_
    refine g_callSiW C dX11_setTank_19 (c_X11_in _ _ _ _ _ _ _ _ _ _ _ _) tw1406 tw1407 tw16 tw1408 rfl ⟨by decide +kernel, by decide +kernel, rfl⟩ ⟨rfl, rfl⟩ (by rw [hR]; decide) (Nat.le_of_ble_eq_true rfl) (by rw [hR]; decide) (fun r_5 X1 M1 K1 h_6 => ?_)
    obtain ⟨er_5, hX1, hM1, hK1⟩ := h_6
    subst X1 M1 K1
    try simp only [sa_ap, si_ap, reduceIte, Nat.reduceEqDiff] at er_5
    refine g_if_eq C dX11_setTank_22 (tgt := 50) (by decide) (fun c_22 => ?_) (fun c_22 => ?_)
    · try simp only [sa_ap, si_ap, reduceIte, Nat.reduceEqDiff, up_us, lg_cmp_lt, lg_cmp_gt, lg_cmp_le, lg_cmp_ge] at c_22
      refine g_iconst C dX11_setTank_50 (v := 1) (by decide) ?_
      refine g_goto C dX11_setTank_51 (tgt := 55) (by decide) ?_
      refine g_iconst C dX11_setTank_55 (v := 1) (by decide) ?_
      refine g_callViW C dX11_setTank_56 (c_X11_fails_1 _ _ _ _ _ _ _ _ _ _ (by rfl) (by decide)) tw1412 tw1414 tp14 tw16 tw1415 (rv_X11 C) rfl ⟨by decide +kernel, by decide +kernel, rfl⟩ ⟨rfl, rfl⟩ (by rw [hR]; decide) (Nat.le_of_ble_eq_true rfl) (by rw [hR]; decide) (fun r_7 X1 M1 K1 h_8 => ?_)
      obtain ⟨rfl, hX1, hM1, hK1⟩ := h_8
      subst X1 M1 K1
      refine g_if_eq C dX11_setTank_59 (tgt := 64) (by decide) (fun c_59 => absurd c_59 (by decide)) (fun c_59 => ?_)
      refine g_iconst C dX11_setTank_62 (v := 0) (by decide) ?_
      refine g_iretW C hr hQ (Nat.le_refl _) (Nat.le_refl _) dX11_setTank_63 ?_
      exact ⟨(by first | with_reducible rfl | (subst er_1 er_5; first | with_reducible rfl | (simp only [sa_ap, si_ap, si_sa, sa_sa, sa_3, sa_4, sa_5, sa_6, sa_7, sa_8, xs_tank, up_us, up_up, xs_b, c_10, c_clj, c_22]; done) | (simp [sa_ap, si_ap, si_sa, sa_sa, sa_3, sa_4, sa_5, sa_6, sa_7, sa_8, xs_tank, up_us, up_up, xs_b, c_10, c_clj, c_22]; done))), rfl, (by first | with_reducible rfl | (subst er_1 er_5; first | with_reducible rfl | (simp only [sa_ap, si_ap, si_sa, sa_sa, sa_3, sa_4, sa_5, sa_6, sa_7, sa_8, xs_tank, up_us, up_up, xs_b, c_10, c_clj, c_22]; done) | (simp [sa_ap, si_ap, si_sa, sa_sa, sa_3, sa_4, sa_5, sa_6, sa_7, sa_8, xs_tank, up_us, up_up, xs_b, c_10, c_clj, c_22]; done))), rfl⟩
    · try simp only [sa_ap, si_ap, reduceIte, Nat.reduceEqDiff, up_us, lg_cmp_lt, lg_cmp_gt, lg_cmp_le, lg_cmp_ge] at c_22
      refine g_iload_n C dX11_setTank_25 3 rfl ?_
      refine g_i2l C dX11_setTank_26 ?_
      refine g_lconst C dX11_setTank_27 (v := 0) (by decide) ?_
      refine g_ldc2 C dX11_setTank_28 tw1410 ?_
      refine g_callSiW C dX11_setTank_31 (c_X11_in _ _ _ _ _ _ _ _ _ _ _ _) tw1406 tw1407 tw16 tw1408 rfl ⟨by decide +kernel, by decide +kernel, rfl⟩ ⟨rfl, rfl⟩ (by rw [hR]; decide) (Nat.le_of_ble_eq_true rfl) (by rw [hR]; decide) (fun r_9 X1 M1 K1 h_10 => ?_)
      obtain ⟨er_9, hX1, hM1, hK1⟩ := h_10
      subst X1 M1 K1
      try simp only [sa_ap, si_ap, reduceIte, Nat.reduceEqDiff] at er_9
      refine g_if_eq C dX11_setTank_34 (tgt := 50) (by decide) (fun c_34 => ?_) (fun c_34 => ?_)
      · try simp only [sa_ap, si_ap, reduceIte, Nat.reduceEqDiff, up_us, lg_cmp_lt, lg_cmp_gt, lg_cmp_le, lg_cmp_ge] at c_34
        refine g_iconst C dX11_setTank_50 (v := 1) (by decide) ?_
        refine g_goto C dX11_setTank_51 (tgt := 55) (by decide) ?_
        refine g_iconst C dX11_setTank_55 (v := 1) (by decide) ?_
        refine g_callViW C dX11_setTank_56 (c_X11_fails_1 _ _ _ _ _ _ _ _ _ _ (by rfl) (by decide)) tw1412 tw1414 tp14 tw16 tw1415 (rv_X11 C) rfl ⟨by decide +kernel, by decide +kernel, rfl⟩ ⟨rfl, rfl⟩ (by rw [hR]; decide) (Nat.le_of_ble_eq_true rfl) (by rw [hR]; decide) (fun r_11 X1 M1 K1 h_12 => ?_)
        obtain ⟨rfl, hX1, hM1, hK1⟩ := h_12
        subst X1 M1 K1
        refine g_if_eq C dX11_setTank_59 (tgt := 64) (by decide) (fun c_59 => absurd c_59 (by decide)) (fun c_59 => ?_)
        refine g_iconst C dX11_setTank_62 (v := 0) (by decide) ?_
        refine g_iretW C hr hQ (Nat.le_refl _) (Nat.le_refl _) dX11_setTank_63 ?_
        exact ⟨(by first | with_reducible rfl | (subst er_1 er_5 er_9; first | with_reducible rfl | (simp only [sa_ap, si_ap, si_sa, sa_sa, sa_3, sa_4, sa_5, sa_6, sa_7, sa_8, xs_tank, up_us, up_up, xs_b, c_10, c_clj, c_22, c_34]; done) | (simp [sa_ap, si_ap, si_sa, sa_sa, sa_3, sa_4, sa_5, sa_6, sa_7, sa_8, xs_tank, up_us, up_up, xs_b, c_10, c_clj, c_22, c_34]; done))), rfl, (by first | with_reducible rfl | (subst er_1 er_5 er_9; first | with_reducible rfl | (simp only [sa_ap, si_ap, si_sa, sa_sa, sa_3, sa_4, sa_5, sa_6, sa_7, sa_8, xs_tank, up_us, up_up, xs_b, c_10, c_clj, c_22, c_34]; done) | (simp [sa_ap, si_ap, si_sa, sa_sa, sa_3, sa_4, sa_5, sa_6, sa_7, sa_8, xs_tank, up_us, up_up, xs_b, c_10, c_clj, c_22, c_34]; done))), rfl⟩
      · try simp only [sa_ap, si_ap, reduceIte, Nat.reduceEqDiff, up_us, lg_cmp_lt, lg_cmp_gt, lg_cmp_le, lg_cmp_ge] at c_34
        refine g_iload C dX11_setTank_37 4 rfl ?_
        refine g_i2l C dX11_setTank_39 ?_
        refine g_lconst C dX11_setTank_40 (v := 0) (by decide) ?_
        refine g_ldc2 C dX11_setTank_41 tw1411 ?_
        refine g_callSiW C dX11_setTank_44 (c_X11_in _ _ _ _ _ _ _ _ _ _ _ _) tw1406 tw1407 tw16 tw1408 rfl ⟨by decide +kernel, by decide +kernel, rfl⟩ ⟨rfl, rfl⟩ (by rw [hR]; decide) (Nat.le_of_ble_eq_true rfl) (by rw [hR]; decide) (fun r_13 X1 M1 K1 h_14 => ?_)
        obtain ⟨er_13, hX1, hM1, hK1⟩ := h_14
        subst X1 M1 K1
        try simp only [sa_ap, si_ap, reduceIte, Nat.reduceEqDiff] at er_13
        refine g_if_ne C dX11_setTank_47 (tgt := 54) (by decide) (fun c_47 => ?_) (fun c_47 => ?_)
        · try simp only [sa_ap, si_ap, reduceIte, Nat.reduceEqDiff, up_us, lg_cmp_lt, lg_cmp_gt, lg_cmp_le, lg_cmp_ge] at c_47
          refine g_iconst C dX11_setTank_54 (v := 0) (by decide) ?_
          refine g_iconst C dX11_setTank_55 (v := 1) (by decide) ?_
          refine g_callViW C dX11_setTank_56 (c_X11_fails_0 _ _ _ _ _ _ _ _ _ _ (by rfl)) tw1412 tw1414 tp14 tw16 tw1415 (rv_X11 C) rfl ⟨by decide +kernel, by decide +kernel, rfl⟩ ⟨rfl, rfl⟩ (by rw [hR]; decide) (Nat.le_of_ble_eq_true rfl) (by rw [hR]; decide) (fun r_15 X1 M1 K1 h_16 => ?_)
          obtain ⟨rfl, hX1, hM1, hK1⟩ := h_16
          subst X1 M1 K1
          refine g_if_eq C dX11_setTank_59 (tgt := 64) (by decide) (fun c_59 => ?_) (fun c_59 => absurd (by decide) c_59)
          refine g_aload_n C dX11_setTank_64 0 rfl ?_
          refine gf_X11_room C tw1258 dX11_setTank_65 ?_
          refine g_iload_n C dX11_setTank_68 1 rfl ?_
          refine g_iload_n C dX11_setTank_69 2 rfl ?_
          refine as_43 C (by omega) dX11_setTank_70 ?_
          refine g_aload_n C dX11_setTank_71 0 rfl ?_
          refine gf_X11_rate C tw1259 dX11_setTank_72 ?_
          refine g_iload_n C dX11_setTank_75 1 rfl ?_
          refine g_iload_n C dX11_setTank_76 3 rfl ?_
          refine as_44 C (by omega) dX11_setTank_77 ?_
          refine g_aload_n C dX11_setTank_78 0 rfl ?_
          refine gf_X11_boil C tw1260 dX11_setTank_79 ?_
          refine g_iload_n C dX11_setTank_82 1 rfl ?_
          refine g_iload C dX11_setTank_83 4 rfl ?_
          refine as_45 C (by omega) dX11_setTank_85 ?_
          refine g_aload_n C dX11_setTank_86 0 rfl ?_
          refine gf_X11_inTank C tw1261 dX11_setTank_87 ?_
          refine g_iload_n C dX11_setTank_90 1 rfl ?_
          refine g_aload_n C dX11_setTank_91 0 rfl ?_
          refine gf_X11_inTank C tw1261 dX11_setTank_92 ?_
          refine g_iload_n C dX11_setTank_95 1 rfl ?_
          refine al_46 C (by omega) dX11_setTank_96 ?_
          refine g_iload_n C dX11_setTank_97 2 rfl ?_
          refine g_min C dX11_setTank_98 tw1416 (Nat.le_of_ble_eq_true rfl) (by rw [hR]; decide) ?_
          refine g_topi (y := tk_min _ _) rfl ?_
          refine as_46 C (by omega) dX11_setTank_101 ?_
          refine g_aload_n C dX11_setTank_102 0 rfl ?_
          refine gf_X11_inTank C tw1261 dX11_setTank_103 ?_
          refine g_iload_n C dX11_setTank_106 1 rfl ?_
          refine al_46 C (by omega) dX11_setTank_107 ?_
          refine g_iretW C hr hQ (Nat.le_refl _) (Nat.le_refl _) dX11_setTank_108 ?_
          exact ⟨(by first | with_reducible rfl | (subst er_1 er_5 er_9 er_13; first | with_reducible rfl | (simp only [sa_ap, si_ap, si_sa, sa_sa, sa_3, sa_4, sa_5, sa_6, sa_7, sa_8, xs_tank, up_us, up_up, xs_b, c_10, c_clj, c_22, c_34, c_47]; done) | (simp [sa_ap, si_ap, si_sa, sa_sa, sa_3, sa_4, sa_5, sa_6, sa_7, sa_8, xs_tank, up_us, up_up, xs_b, c_10, c_clj, c_22, c_34, c_47]; done))), rfl, (by first | with_reducible rfl | (subst er_1 er_5 er_9 er_13; first | with_reducible rfl | (simp only [sa_ap, si_ap, si_sa, sa_sa, sa_3, sa_4, sa_5, sa_6, sa_7, sa_8, xs_tank, up_us, up_up, xs_b, c_10, c_clj, c_22, c_34, c_47]; done) | (simp [sa_ap, si_ap, si_sa, sa_sa, sa_3, sa_4, sa_5, sa_6, sa_7, sa_8, xs_tank, up_us, up_up, xs_b, c_10, c_clj, c_22, c_34, c_47]; done))), rfl⟩
        · try simp only [sa_ap, si_ap, reduceIte, Nat.reduceEqDiff, up_us, lg_cmp_lt, lg_cmp_gt, lg_cmp_le, lg_cmp_ge] at c_47
          refine g_iconst C dX11_setTank_50 (v := 1) (by decide) ?_
          refine g_goto C dX11_setTank_51 (tgt := 55) (by decide) ?_
          refine g_iconst C dX11_setTank_55 (v := 1) (by decide) ?_
          refine g_callViW C dX11_setTank_56 (c_X11_fails_1 _ _ _ _ _ _ _ _ _ _ (by rfl) (by decide)) tw1412 tw1414 tp14 tw16 tw1415 (rv_X11 C) rfl ⟨by decide +kernel, by decide +kernel, rfl⟩ ⟨rfl, rfl⟩ (by rw [hR]; decide) (Nat.le_of_ble_eq_true rfl) (by rw [hR]; decide) (fun r_17 X1 M1 K1 h_18 => ?_)
          obtain ⟨rfl, hX1, hM1, hK1⟩ := h_18
          subst X1 M1 K1
          refine g_if_eq C dX11_setTank_59 (tgt := 64) (by decide) (fun c_59 => absurd c_59 (by decide)) (fun c_59 => ?_)
          refine g_iconst C dX11_setTank_62 (v := 0) (by decide) ?_
          refine g_iretW C hr hQ (Nat.le_refl _) (Nat.le_refl _) dX11_setTank_63 ?_
          exact ⟨(by first | with_reducible rfl | (subst er_1 er_5 er_9 er_13; first | with_reducible rfl | (simp only [sa_ap, si_ap, si_sa, sa_sa, sa_3, sa_4, sa_5, sa_6, sa_7, sa_8, xs_tank, up_us, up_up, xs_b, c_10, c_clj, c_22, c_34, c_47]; done) | (simp [sa_ap, si_ap, si_sa, sa_sa, sa_3, sa_4, sa_5, sa_6, sa_7, sa_8, xs_tank, up_us, up_up, xs_b, c_10, c_clj, c_22, c_34, c_47]; done))), rfl, (by first | with_reducible rfl | (subst er_1 er_5 er_9 er_13; first | with_reducible rfl | (simp only [sa_ap, si_ap, si_sa, sa_sa, sa_3, sa_4, sa_5, sa_6, sa_7, sa_8, xs_tank, up_us, up_up, xs_b, c_10, c_clj, c_22, c_34, c_47]; done) | (simp [sa_ap, si_ap, si_sa, sa_sa, sa_3, sa_4, sa_5, sa_6, sa_7, sa_8, xs_tank, up_us, up_up, xs_b, c_10, c_clj, c_22, c_34, c_47]; done))), rfl⟩

set_option maxHeartbeats 400000 in
set_option maxRecDepth 100000 in
/-- setValve.setValve -/
theorem c_X11_setValve (l : Launch) (D : va_G) (cy : Nat → ClassId) (A : Nat → Prop) (ad sad : Nat → Nat) (X M : XF) (K : KF) (p1 p2 : Int32) (h2 : isBo p2) (hb : ∀ i : Nat, isBo (M 47 i)) : Met l yX11_setValve (wsA yX11_setValve cX11_setValve 4 (some .boolean)) ({ frames := 2, cells := 0, slots := 0, locals := 45 }) (PcW D cy A ad sad X M K [.ref (ad 42), .int p1, .int p2]) (QiW D cy A ad (fun r X1 M1 K1 => r = (if xs_b (md_nt p1) = 0 then M 47 p1.toNatClampNeg else 0) ∧ X1 = X ∧ M1 = (if xs_b (md_nt p1) = 0 then sa (si M 100 0) 47 (upd (M 47) p1.toNatClampNeg p2) else si M 100 (xs_b (md_nt p1))) ∧ K1 = K)) 0 0 A := by
  refine met_ofW [(0, .ref (ad 42)), (1, .int p1), (2, .int p2)] (by decide +kernel) (Nat.le_of_ble_eq_true rfl) rfl ?_
  intro G C hl hR hL hD hcy hA had hsa hr hQ
  subst hD hcy hA had hsa hl
  refine g_aload_n C dX11_setValve_0 0 rfl ?_
  refine g_iconst C dX11_setValve_1 (v := 0) (by decide) ?_
  refine pf_X11_thrown C tw1243 dX11_setValve_2 ?_
  refine g_aload_n C dX11_setValve_5 0 rfl ?_
  refine g_iload_n C dX11_setValve_6 1 rfl ?_
  refine g_callSiW C dX11_setValve_7 (c_X11_noTank _ _ _ _ _ _ _ _ _ _) tw1402 tw1403 tw16 tw1404 rfl ⟨by decide +kernel, by decide +kernel, rfl⟩ ⟨rfl, rfl⟩ (by rw [hR]; decide) (Nat.le_of_ble_eq_true rfl) (by rw [hR]; decide) (fun r_1 X1 M1 K1 h_2 => ?_)
  obtain ⟨er_1, hX1, hM1, hK1⟩ := h_2
  subst X1 M1 K1
  try simp only [sa_ap, si_ap, reduceIte, Nat.reduceEqDiff] at er_1
  refine g_iconst C dX11_setValve_10 (v := 1) (by decide) ?_
  refine g_callViW C dX11_setValve_11 (c_X11_fails _ _ _ _ _ _ _ _ _ _ _ (by rfl) (by decide)) tw1412 tw1414 tp14 tw16 tw1415 (rv_X11 C) rfl ⟨by decide +kernel, by decide +kernel, rfl⟩ ⟨rfl, rfl⟩ (by rw [hR]; decide) (Nat.le_of_ble_eq_true rfl) (by rw [hR]; decide) (fun r_3 X1 M1 K1 h_4 => ?_)
  obtain ⟨er_3, hX1, hM1, hK1⟩ := h_4
  subst X1 M1 K1
  try simp only [sa_ap, si_ap, reduceIte, Nat.reduceEqDiff] at er_3
  refine g_if_eq C dX11_setValve_14 (tgt := 19) (by decide) (fun c_14 => ?_) (fun c_14 => ?_)
  · try simp only [sa_ap, si_ap, reduceIte, Nat.reduceEqDiff, up_us, lg_cmp_lt, lg_cmp_gt, lg_cmp_le, lg_cmp_ge] at c_14
    have c_b14 := md_r0 er_3 c_14
    rw [if_pos c_b14]
    obtain ⟨j, hj, rfl⟩ := md_nt_ix (p := p1) (by rw [← er_1]; exact c_b14)
    have c_clj : (nI j).toNatClampNeg = j := nI_clamp (by omega)
    refine g_aload_n C dX11_setValve_19 0 rfl ?_
    refine gf_X11_isOpen C tw1262 dX11_setValve_20 ?_
    refine g_iload_n C dX11_setValve_23 1 rfl ?_
    refine al_47 C (by omega) dX11_setValve_24 ?_
    refine g_namei (fun v_5 ev_5 => ?_)
    refine g_istore_n C dX11_setValve_25 (L' := [(3, .int v_5), (0, .ref (gad G 42)), (1, .int (nI j)), (2, .int p2)]) rfl (by rw [hL]; decide) ?_
    refine g_aload_n C dX11_setValve_26 1 rfl ?_
    refine gf_X11_isOpen C tw1262 dX11_setValve_27 ?_
    refine g_iload_n C dX11_setValve_30 2 rfl ?_
    refine g_iload_n C dX11_setValve_31 3 rfl ?_
    refine as_47 C (by first | exact isBo_0 | exact isBo_1 | assumption) (by omega) dX11_setValve_32 ?_
    refine g_iload_n C dX11_setValve_33 0 rfl ?_
    refine g_zretW C hr (by subst ev_5; exact (isBo.na (hb _)).1) hQ (Nat.le_refl _) (Nat.le_refl _) dX11_setValve_34 ?_
    exact ⟨(by first | with_reducible rfl | (subst er_1 er_3 ev_5; first | with_reducible rfl | (simp only [sa_ap, si_ap, si_sa, sa_sa, sa_3, sa_4, sa_5, sa_6, sa_7, sa_8, up_us, up_up, xs_b, c_14, c_clj, c_b14]; done) | (simp [sa_ap, si_ap, si_sa, sa_sa, sa_3, sa_4, sa_5, sa_6, sa_7, sa_8, up_us, up_up, xs_b, c_14, c_clj, c_b14]; done))), rfl, (by first | with_reducible rfl | (subst er_1 er_3 ev_5; first | with_reducible rfl | (simp only [sa_ap, si_ap, si_sa, sa_sa, sa_3, sa_4, sa_5, sa_6, sa_7, sa_8, up_us, up_up, xs_b, c_14, c_clj, c_b14]; done) | (simp [sa_ap, si_ap, si_sa, sa_sa, sa_3, sa_4, sa_5, sa_6, sa_7, sa_8, up_us, up_up, xs_b, c_14, c_clj, c_b14]; done))), rfl⟩
  · try simp only [sa_ap, si_ap, reduceIte, Nat.reduceEqDiff, up_us, lg_cmp_lt, lg_cmp_gt, lg_cmp_le, lg_cmp_ge] at c_14
    have c_b14 := md_r1 er_3 c_14
    rw [if_neg c_b14]
    refine g_iconst C dX11_setValve_17 (v := 0) (by decide) ?_
    refine g_zretW C hr (by decide) hQ (Nat.le_refl _) (Nat.le_refl _) dX11_setValve_18 ?_
    exact ⟨(by first | with_reducible rfl | (subst er_1 er_3; first | with_reducible rfl | (simp only [sa_ap, si_ap, si_sa, sa_sa, sa_3, sa_4, sa_5, sa_6, sa_7, sa_8, up_us, up_up, xs_b, c_14, c_b14]; done) | (simp [sa_ap, si_ap, si_sa, sa_sa, sa_3, sa_4, sa_5, sa_6, sa_7, sa_8, up_us, up_up, xs_b, c_14, c_b14]; done))), rfl, (by first | with_reducible rfl | (subst er_1 er_3; first | with_reducible rfl | (simp only [sa_ap, si_ap, si_sa, sa_sa, sa_3, sa_4, sa_5, sa_6, sa_7, sa_8, up_us, up_up, xs_b, c_14, c_b14]; done) | (simp [sa_ap, si_ap, si_sa, sa_sa, sa_3, sa_4, sa_5, sa_6, sa_7, sa_8, up_us, up_up, xs_b, c_14, c_b14]; done))), rfl⟩

set_option maxHeartbeats 400000 in
set_option maxRecDepth 100000 in
/-- drain.drain -/
theorem c_X11_drain (l : Launch) (D : va_G) (cy : Nat → ClassId) (A : Nat → Prop) (ad sad : Nat → Nat) (X M : XF) (K : KF) (p1 p2 : Int32) : Met l yX11_drain (wsA yX11_drain cX11_drain 4 (some .int)) ({ frames := 2, cells := 0, slots := 0, locals := 45 }) (PcW D cy A ad sad X M K [.ref (ad 42), .int p1, .int p2]) (QiW D cy A ad (fun r X1 M1 K1 => r = (if xs_drain p1 p2 = 0 then tk_min p2 (M 46 p1.toNatClampNeg) else 0) ∧ X1 = X ∧ M1 = (if xs_drain p1 p2 = 0 then sa (si M 100 0) 46 (upd (M 46) p1.toNatClampNeg (M 46 p1.toNatClampNeg - tk_min p2 (M 46 p1.toNatClampNeg))) else si M 100 (xs_drain p1 p2)) ∧ K1 = K)) 0 0 A := by
  refine met_ofW [(0, .ref (ad 42)), (1, .int p1), (2, .int p2)] (by decide +kernel) (Nat.le_of_ble_eq_true rfl) rfl ?_
  intro G C hl hR hL hD hcy hA had hsa hr hQ
  subst hD hcy hA had hsa hl
  refine g_aload_n C dX11_drain_0 0 rfl ?_
  refine g_iconst C dX11_drain_1 (v := 0) (by decide) ?_
  refine pf_X11_thrown C tw1243 dX11_drain_2 ?_
  refine g_aload_n C dX11_drain_5 0 rfl ?_
  refine g_iload_n C dX11_drain_6 1 rfl ?_
  refine g_callSiW C dX11_drain_7 (c_X11_noTank _ _ _ _ _ _ _ _ _ _) tw1402 tw1403 tw16 tw1404 rfl ⟨by decide +kernel, by decide +kernel, rfl⟩ ⟨rfl, rfl⟩ (by rw [hR]; decide) (Nat.le_of_ble_eq_true rfl) (by rw [hR]; decide) (fun r_1 X1 M1 K1 h_2 => ?_)
  obtain ⟨er_1, hX1, hM1, hK1⟩ := h_2
  subst X1 M1 K1
  try simp only [sa_ap, si_ap, reduceIte, Nat.reduceEqDiff] at er_1
  refine g_if_ne C dX11_drain_10 (tgt := 25) (by decide) (fun c_10 => ?_) (fun c_10 => ?_)
  · try simp only [sa_ap, si_ap, reduceIte, Nat.reduceEqDiff, up_us, lg_cmp_lt, lg_cmp_gt, lg_cmp_le, lg_cmp_ge] at c_10
    refine g_iconst C dX11_drain_25 (v := 1) (by decide) ?_
    refine g_goto C dX11_drain_26 (tgt := 30) (by decide) ?_
    refine g_iconst C dX11_drain_30 (v := 1) (by decide) ?_
    refine g_callViW C dX11_drain_31 (c_X11_fails_1 _ _ _ _ _ _ _ _ _ _ (by rfl) (by decide)) tw1412 tw1414 tp14 tw16 tw1415 (rv_X11 C) rfl ⟨by decide +kernel, by decide +kernel, rfl⟩ ⟨rfl, rfl⟩ (by rw [hR]; decide) (Nat.le_of_ble_eq_true rfl) (by rw [hR]; decide) (fun r_3 X1 M1 K1 h_4 => ?_)
    obtain ⟨rfl, hX1, hM1, hK1⟩ := h_4
    subst X1 M1 K1
    refine g_if_eq C dX11_drain_34 (tgt := 39) (by decide) (fun c_34 => absurd c_34 (by decide)) (fun c_34 => ?_)
    refine g_iconst C dX11_drain_37 (v := 0) (by decide) ?_
    refine g_iretW C hr hQ (Nat.le_refl _) (Nat.le_refl _) dX11_drain_38 ?_
    exact ⟨(by first | with_reducible rfl | (subst er_1; first | with_reducible rfl | (simp only [sa_ap, si_ap, si_sa, sa_sa, sa_3, sa_4, sa_5, sa_6, sa_7, sa_8, xs_drain, up_us, up_up, xs_b, c_10]; done) | (simp [sa_ap, si_ap, si_sa, sa_sa, sa_3, sa_4, sa_5, sa_6, sa_7, sa_8, xs_drain, up_us, up_up, xs_b, c_10]; done))), rfl, (by first | with_reducible rfl | (subst er_1; first | with_reducible rfl | (simp only [sa_ap, si_ap, si_sa, sa_sa, sa_3, sa_4, sa_5, sa_6, sa_7, sa_8, xs_drain, up_us, up_up, xs_b, c_10]; done) | (simp [sa_ap, si_ap, si_sa, sa_sa, sa_3, sa_4, sa_5, sa_6, sa_7, sa_8, xs_drain, up_us, up_up, xs_b, c_10]; done))), rfl⟩
  · try simp only [sa_ap, si_ap, reduceIte, Nat.reduceEqDiff, up_us, lg_cmp_lt, lg_cmp_gt, lg_cmp_le, lg_cmp_ge] at c_10
    obtain ⟨j, hj, rfl⟩ := md_nt_ix (p := p1) (by rw [← er_1]; exact c_10)
    have c_clj : (nI j).toNatClampNeg = j := nI_clamp (by omega)
    refine g_iload_n C dX11_drain_13 2 rfl ?_
    refine g_i2l C dX11_drain_14 ?_
    refine g_lconst C dX11_drain_15 (v := 1) (by decide) ?_
    refine g_ldc2 C dX11_drain_16 tw1409 ?_
    refine g_callSiW C dX11_drain_19 (c_X11_in _ _ _ _ _ _ _ _ _ _ _ _) tw1406 tw1407 tw16 tw1408 rfl ⟨by decide +kernel, by decide +kernel, rfl⟩ ⟨rfl, rfl⟩ (by rw [hR]; decide) (Nat.le_of_ble_eq_true rfl) (by rw [hR]; decide) (fun r_5 X1 M1 K1 h_6 => ?_)
    obtain ⟨er_5, hX1, hM1, hK1⟩ := h_6
    subst X1 M1 K1
    try simp only [sa_ap, si_ap, reduceIte, Nat.reduceEqDiff] at er_5
    refine g_if_ne C dX11_drain_22 (tgt := 29) (by decide) (fun c_22 => ?_) (fun c_22 => ?_)
    · try simp only [sa_ap, si_ap, reduceIte, Nat.reduceEqDiff, up_us, lg_cmp_lt, lg_cmp_gt, lg_cmp_le, lg_cmp_ge] at c_22
      refine g_iconst C dX11_drain_29 (v := 0) (by decide) ?_
      refine g_iconst C dX11_drain_30 (v := 1) (by decide) ?_
      refine g_callViW C dX11_drain_31 (c_X11_fails_0 _ _ _ _ _ _ _ _ _ _ (by rfl)) tw1412 tw1414 tp14 tw16 tw1415 (rv_X11 C) rfl ⟨by decide +kernel, by decide +kernel, rfl⟩ ⟨rfl, rfl⟩ (by rw [hR]; decide) (Nat.le_of_ble_eq_true rfl) (by rw [hR]; decide) (fun r_7 X1 M1 K1 h_8 => ?_)
      obtain ⟨rfl, hX1, hM1, hK1⟩ := h_8
      subst X1 M1 K1
      refine g_if_eq C dX11_drain_34 (tgt := 39) (by decide) (fun c_34 => ?_) (fun c_34 => absurd (by decide) c_34)
      refine g_iload_n C dX11_drain_39 2 rfl ?_
      refine g_aload_n C dX11_drain_40 0 rfl ?_
      refine gf_X11_inTank C tw1261 dX11_drain_41 ?_
      refine g_iload_n C dX11_drain_44 1 rfl ?_
      refine al_46 C (by omega) dX11_drain_45 ?_
      refine g_min C dX11_drain_46 tw1416 (Nat.le_of_ble_eq_true rfl) (by rw [hR]; decide) ?_
      refine g_topi (y := tk_min _ _) rfl ?_
      refine g_namei (fun v_9 ev_9 => ?_)
      refine g_istore_n C dX11_drain_49 (L' := [(3, .int v_9), (0, .ref (gad G 42)), (1, .int (nI j)), (2, .int p2)]) rfl (by rw [hL]; decide) ?_
      refine g_aload_n C dX11_drain_50 1 rfl ?_
      refine gf_X11_inTank C tw1261 dX11_drain_51 ?_
      refine g_iload_n C dX11_drain_54 2 rfl ?_
      refine g_dup2 C dX11_drain_55 rfl rfl ?_
      refine al_46 C (by omega) dX11_drain_56 ?_
      refine g_iload_n C dX11_drain_57 0 rfl ?_
      refine g_isub C dX11_drain_58 ?_
      refine as_46 C (by omega) dX11_drain_59 ?_
      refine g_iload_n C dX11_drain_60 0 rfl ?_
      refine g_iretW C hr hQ (Nat.le_refl _) (Nat.le_refl _) dX11_drain_61 ?_
      exact ⟨(by first | with_reducible rfl | (subst er_1 er_5 ev_9; first | with_reducible rfl | (simp only [sa_ap, si_ap, si_sa, sa_sa, sa_3, sa_4, sa_5, sa_6, sa_7, sa_8, xs_drain, up_us, up_up, xs_b, c_10, c_clj, c_22]; done) | (simp [sa_ap, si_ap, si_sa, sa_sa, sa_3, sa_4, sa_5, sa_6, sa_7, sa_8, xs_drain, up_us, up_up, xs_b, c_10, c_clj, c_22]; done))), rfl, (by first | with_reducible rfl | (subst er_1 er_5 ev_9; first | with_reducible rfl | (simp only [sa_ap, si_ap, si_sa, sa_sa, sa_3, sa_4, sa_5, sa_6, sa_7, sa_8, xs_drain, up_us, up_up, xs_b, c_10, c_clj, c_22]; done) | (simp [sa_ap, si_ap, si_sa, sa_sa, sa_3, sa_4, sa_5, sa_6, sa_7, sa_8, xs_drain, up_us, up_up, xs_b, c_10, c_clj, c_22]; done))), rfl⟩
    · try simp only [sa_ap, si_ap, reduceIte, Nat.reduceEqDiff, up_us, lg_cmp_lt, lg_cmp_gt, lg_cmp_le, lg_cmp_ge] at c_22
      refine g_iconst C dX11_drain_25 (v := 1) (by decide) ?_
      refine g_goto C dX11_drain_26 (tgt := 30) (by decide) ?_
      refine g_iconst C dX11_drain_30 (v := 1) (by decide) ?_
      refine g_callViW C dX11_drain_31 (c_X11_fails_1 _ _ _ _ _ _ _ _ _ _ (by rfl) (by decide)) tw1412 tw1414 tp14 tw16 tw1415 (rv_X11 C) rfl ⟨by decide +kernel, by decide +kernel, rfl⟩ ⟨rfl, rfl⟩ (by rw [hR]; decide) (Nat.le_of_ble_eq_true rfl) (by rw [hR]; decide) (fun r_10 X1 M1 K1 h_11 => ?_)
      obtain ⟨rfl, hX1, hM1, hK1⟩ := h_11
      subst X1 M1 K1
      refine g_if_eq C dX11_drain_34 (tgt := 39) (by decide) (fun c_34 => absurd c_34 (by decide)) (fun c_34 => ?_)
      refine g_iconst C dX11_drain_37 (v := 0) (by decide) ?_
      refine g_iretW C hr hQ (Nat.le_refl _) (Nat.le_refl _) dX11_drain_38 ?_
      exact ⟨(by first | with_reducible rfl | (subst er_1 er_5; first | with_reducible rfl | (simp only [sa_ap, si_ap, si_sa, sa_sa, sa_3, sa_4, sa_5, sa_6, sa_7, sa_8, xs_drain, up_us, up_up, xs_b, c_10, c_clj, c_22]; done) | (simp [sa_ap, si_ap, si_sa, sa_sa, sa_3, sa_4, sa_5, sa_6, sa_7, sa_8, xs_drain, up_us, up_up, xs_b, c_10, c_clj, c_22]; done))), rfl, (by first | with_reducible rfl | (subst er_1 er_5; first | with_reducible rfl | (simp only [sa_ap, si_ap, si_sa, sa_sa, sa_3, sa_4, sa_5, sa_6, sa_7, sa_8, xs_drain, up_us, up_up, xs_b, c_10, c_clj, c_22]; done) | (simp [sa_ap, si_ap, si_sa, sa_sa, sa_3, sa_4, sa_5, sa_6, sa_7, sa_8, xs_drain, up_us, up_up, xs_b, c_10, c_clj, c_22]; done))), rfl⟩

set_option maxHeartbeats 400000 in
set_option maxRecDepth 100000 in
/-- inTank.inTank -/
theorem c_X11_inTank (l : Launch) (D : va_G) (cy : Nat → ClassId) (A : Nat → Prop) (ad sad : Nat → Nat) (X M : XF) (K : KF) (p1 : Int32) : Met l yX11_inTank (wsA yX11_inTank cX11_inTank 2 (some .int)) ({ frames := 2, cells := 0, slots := 0, locals := 45 }) (PcW D cy A ad sad X M K [.ref (ad 42), .int p1]) (QiW D cy A ad (fun r X1 M1 K1 => r = (if xs_b (md_nt p1) = 0 then M 46 p1.toNatClampNeg else 0) ∧ X1 = X ∧ M1 = (if xs_b (md_nt p1) = 0 then si M 100 0 else si M 100 (xs_b (md_nt p1))) ∧ K1 = K)) 0 0 A := by
  refine met_ofW [(0, .ref (ad 42)), (1, .int p1)] (by decide +kernel) (Nat.le_of_ble_eq_true rfl) rfl ?_
  intro G C hl hR hL hD hcy hA had hsa hr hQ
  subst hD hcy hA had hsa hl
  refine g_aload_n C dX11_inTank_0 0 rfl ?_
  refine g_iconst C dX11_inTank_1 (v := 0) (by decide) ?_
  refine pf_X11_thrown C tw1243 dX11_inTank_2 ?_
  refine g_aload_n C dX11_inTank_5 0 rfl ?_
  refine g_iload_n C dX11_inTank_6 1 rfl ?_
  refine g_callSiW C dX11_inTank_7 (c_X11_noTank _ _ _ _ _ _ _ _ _ _) tw1402 tw1403 tw16 tw1404 rfl ⟨by decide +kernel, by decide +kernel, rfl⟩ ⟨rfl, rfl⟩ (by rw [hR]; decide) (Nat.le_of_ble_eq_true rfl) (by rw [hR]; decide) (fun r_1 X1 M1 K1 h_2 => ?_)
  obtain ⟨er_1, hX1, hM1, hK1⟩ := h_2
  subst X1 M1 K1
  try simp only [sa_ap, si_ap, reduceIte, Nat.reduceEqDiff] at er_1
  refine g_iconst C dX11_inTank_10 (v := 1) (by decide) ?_
  refine g_callViW C dX11_inTank_11 (c_X11_fails _ _ _ _ _ _ _ _ _ _ _ (by rfl) (by decide)) tw1412 tw1414 tp14 tw16 tw1415 (rv_X11 C) rfl ⟨by decide +kernel, by decide +kernel, rfl⟩ ⟨rfl, rfl⟩ (by rw [hR]; decide) (Nat.le_of_ble_eq_true rfl) (by rw [hR]; decide) (fun r_3 X1 M1 K1 h_4 => ?_)
  obtain ⟨er_3, hX1, hM1, hK1⟩ := h_4
  subst X1 M1 K1
  try simp only [sa_ap, si_ap, reduceIte, Nat.reduceEqDiff] at er_3
  refine g_if_eq C dX11_inTank_14 (tgt := 21) (by decide) (fun c_14 => ?_) (fun c_14 => ?_)
  · try simp only [sa_ap, si_ap, reduceIte, Nat.reduceEqDiff, up_us, lg_cmp_lt, lg_cmp_gt, lg_cmp_le, lg_cmp_ge] at c_14
    have c_b14 := md_r0 er_3 c_14
    rw [if_pos c_b14]
    obtain ⟨j, hj, rfl⟩ := md_nt_ix (p := p1) (by rw [← er_1]; exact c_b14)
    have c_clj : (nI j).toNatClampNeg = j := nI_clamp (by omega)
    refine g_aload_n C dX11_inTank_21 0 rfl ?_
    refine gf_X11_inTank C tw1261 dX11_inTank_22 ?_
    refine g_iload_n C dX11_inTank_25 1 rfl ?_
    refine al_46 C (by omega) dX11_inTank_26 ?_
    refine g_iretW C hr hQ (Nat.le_refl _) (Nat.le_refl _) dX11_inTank_27 ?_
    exact ⟨(by first | with_reducible rfl | (subst er_1 er_3; first | with_reducible rfl | (simp only [sa_ap, si_ap, si_sa, sa_sa, sa_3, sa_4, sa_5, sa_6, sa_7, sa_8, up_us, up_up, xs_b, c_14, c_clj, c_b14]; done) | (simp [sa_ap, si_ap, si_sa, sa_sa, sa_3, sa_4, sa_5, sa_6, sa_7, sa_8, up_us, up_up, xs_b, c_14, c_clj, c_b14]; done))), rfl, (by first | with_reducible rfl | (subst er_1 er_3; first | with_reducible rfl | (simp only [sa_ap, si_ap, si_sa, sa_sa, sa_3, sa_4, sa_5, sa_6, sa_7, sa_8, up_us, up_up, xs_b, c_14, c_clj, c_b14]; done) | (simp [sa_ap, si_ap, si_sa, sa_sa, sa_3, sa_4, sa_5, sa_6, sa_7, sa_8, up_us, up_up, xs_b, c_14, c_clj, c_b14]; done))), rfl⟩
  · try simp only [sa_ap, si_ap, reduceIte, Nat.reduceEqDiff, up_us, lg_cmp_lt, lg_cmp_gt, lg_cmp_le, lg_cmp_ge] at c_14
    have c_b14 := md_r1 er_3 c_14
    rw [if_neg c_b14]
    refine g_iconst C dX11_inTank_17 (v := 0) (by decide) ?_
    refine g_goto C dX11_inTank_18 (tgt := 27) (by decide) ?_
    refine g_iretW C hr hQ (Nat.le_refl _) (Nat.le_refl _) dX11_inTank_27 ?_
    exact ⟨(by first | with_reducible rfl | (subst er_1 er_3; first | with_reducible rfl | (simp only [sa_ap, si_ap, si_sa, sa_sa, sa_3, sa_4, sa_5, sa_6, sa_7, sa_8, up_us, up_up, xs_b, c_14, c_b14]; done) | (simp [sa_ap, si_ap, si_sa, sa_sa, sa_3, sa_4, sa_5, sa_6, sa_7, sa_8, up_us, up_up, xs_b, c_14, c_b14]; done))), rfl, (by first | with_reducible rfl | (subst er_1 er_3; first | with_reducible rfl | (simp only [sa_ap, si_ap, si_sa, sa_sa, sa_3, sa_4, sa_5, sa_6, sa_7, sa_8, up_us, up_up, xs_b, c_14, c_b14]; done) | (simp [sa_ap, si_ap, si_sa, sa_sa, sa_3, sa_4, sa_5, sa_6, sa_7, sa_8, up_us, up_up, xs_b, c_14, c_b14]; done))), rfl⟩

set_option maxHeartbeats 400000 in
set_option maxRecDepth 100000 in
/-- addStep.addStep -/
theorem c_X11_addStep (l : Launch) (D : va_G) (cy : Nat → ClassId) (A : Nat → Prop) (ad sad : Nat → Nat) (X M : XF) (K : KF) (p1 p2 : Int32) (z : Nat) (hz : M 113 0 = nI z) (hzl : z ≤ 16) : Met l yX11_addStep (wsA yX11_addStep cX11_addStep 3 (some .int)) ({ frames := 1, cells := 0, slots := 0, locals := 25 }) (PcW D cy A ad sad X M K [.ref (ad 42), .int p1, .int p2]) (QiW D cy A ad (fun r X1 M1 K1 => r = (if xs_step (M 113 0) (M 102 0) p1 p2 = 0 then nI z else 0) ∧ X1 = X ∧ M1 = (if xs_step (M 113 0) (M 102 0) p1 p2 = 0 then si (sa (sa (sa (si M 100 0) 48 (upd (M 48) z p1)) 49 (upd (M 49) z p2)) 51 (upd (M 51) z 45)) 113 (nI z + 1) else si M 100 (xs_step (M 113 0) (M 102 0) p1 p2)) ∧ K1 = K)) 0 0 A := by
  refine met_ofW [(0, .ref (ad 42)), (1, .int p1), (2, .int p2)] (by decide +kernel) (Nat.le_of_ble_eq_true rfl) rfl ?_
  intro G C hl hR hL hD hcy hA had hsa hr hQ
  subst hD hcy hA had hsa hl
  refine g_aload_n C dX11_addStep_0 0 rfl ?_
  refine g_iconst C dX11_addStep_1 (v := 0) (by decide) ?_
  refine pf_X11_thrown C tw1243 dX11_addStep_2 ?_
  refine g_aload_n C dX11_addStep_5 0 rfl ?_
  refine g_iload_n C dX11_addStep_6 1 rfl ?_
  refine g_i2l C dX11_addStep_7 ?_
  refine g_ldc2 C dX11_addStep_8 tw1433 ?_
  refine g_ldc2 C dX11_addStep_11 tw1434 ?_
  refine g_callSiW C dX11_addStep_14 (c_X11_in _ _ _ _ _ _ _ _ _ _ _ _) tw1406 tw1407 tw16 tw1408 rfl ⟨by decide +kernel, by decide +kernel, rfl⟩ ⟨rfl, rfl⟩ (by rw [hR]; decide) (Nat.le_of_ble_eq_true rfl) (by rw [hR]; decide) (fun r_1 X1 M1 K1 h_2 => ?_)
  obtain ⟨er_1, hX1, hM1, hK1⟩ := h_2
  subst X1 M1 K1
  try simp only [sa_ap, si_ap, reduceIte, Nat.reduceEqDiff] at er_1
  refine g_if_eq C dX11_addStep_17 (tgt := 32) (by decide) (fun c_17 => ?_) (fun c_17 => ?_)
  · try simp only [sa_ap, si_ap, reduceIte, Nat.reduceEqDiff, up_us, lg_cmp_lt, lg_cmp_gt, lg_cmp_le, lg_cmp_ge] at c_17
    refine g_iconst C dX11_addStep_32 (v := 1) (by decide) ?_
    refine g_goto C dX11_addStep_33 (tgt := 37) (by decide) ?_
    refine g_iconst C dX11_addStep_37 (v := 1) (by decide) ?_
    refine g_callViW C dX11_addStep_38 (c_X11_fails_1 _ _ _ _ _ _ _ _ _ _ (by rfl) (by decide)) tw1412 tw1414 tp14 tw16 tw1415 (rv_X11 C) rfl ⟨by decide +kernel, by decide +kernel, rfl⟩ ⟨rfl, rfl⟩ (by rw [hR]; decide) (Nat.le_of_ble_eq_true rfl) (by rw [hR]; decide) (fun r_3 X1 M1 K1 h_4 => ?_)
    obtain ⟨rfl, hX1, hM1, hK1⟩ := h_4
    subst X1 M1 K1
    refine g_if_ne C dX11_addStep_41 (tgt := 80) (by decide) (fun c_41 => ?_) (fun c_41 => absurd c_41 (by decide))
    refine g_iconst C dX11_addStep_80 (v := 0) (by decide) ?_
    refine g_iretW C hr hQ (Nat.le_refl _) (Nat.le_refl _) dX11_addStep_81 ?_
    exact ⟨(by first | with_reducible rfl | (subst er_1; first | with_reducible rfl | (simp only [sa_ap, si_ap, si_sa, sa_sa, sa_3, sa_4, sa_5, sa_6, sa_7, sa_8, xs_step, xs_go, hz, up_us, up_up, xs_b, c_17]; done) | (simp [sa_ap, si_ap, si_sa, sa_sa, sa_3, sa_4, sa_5, sa_6, sa_7, sa_8, xs_step, xs_go, hz, up_us, up_up, xs_b, c_17]; done))), rfl, (by first | with_reducible rfl | (subst er_1; first | with_reducible rfl | (simp only [sa_ap, si_ap, si_sa, sa_sa, sa_3, sa_4, sa_5, sa_6, sa_7, sa_8, xs_step, xs_go, hz, up_us, up_up, xs_b, c_17]; done) | (simp [sa_ap, si_ap, si_sa, sa_sa, sa_3, sa_4, sa_5, sa_6, sa_7, sa_8, xs_step, xs_go, hz, up_us, up_up, xs_b, c_17]; done))), rfl⟩
  · try simp only [sa_ap, si_ap, reduceIte, Nat.reduceEqDiff, up_us, lg_cmp_lt, lg_cmp_gt, lg_cmp_le, lg_cmp_ge] at c_17
    refine g_iload_n C dX11_addStep_20 2 rfl ?_
    refine g_i2l C dX11_addStep_21 ?_
    refine g_lconst C dX11_addStep_22 (v := 1) (by decide) ?_
    refine g_ldc2 C dX11_addStep_23 tw1435 ?_
    refine g_callSiW C dX11_addStep_26 (c_X11_in _ _ _ _ _ _ _ _ _ _ _ _) tw1406 tw1407 tw16 tw1408 rfl ⟨by decide +kernel, by decide +kernel, rfl⟩ ⟨rfl, rfl⟩ (by rw [hR]; decide) (Nat.le_of_ble_eq_true rfl) (by rw [hR]; decide) (fun r_5 X1 M1 K1 h_6 => ?_)
    obtain ⟨er_5, hX1, hM1, hK1⟩ := h_6
    subst X1 M1 K1
    try simp only [sa_ap, si_ap, reduceIte, Nat.reduceEqDiff] at er_5
    refine g_if_ne C dX11_addStep_29 (tgt := 36) (by decide) (fun c_29 => ?_) (fun c_29 => ?_)
    · try simp only [sa_ap, si_ap, reduceIte, Nat.reduceEqDiff, up_us, lg_cmp_lt, lg_cmp_gt, lg_cmp_le, lg_cmp_ge] at c_29
      refine g_iconst C dX11_addStep_36 (v := 0) (by decide) ?_
      refine g_iconst C dX11_addStep_37 (v := 1) (by decide) ?_
      refine g_callViW C dX11_addStep_38 (c_X11_fails_0 _ _ _ _ _ _ _ _ _ _ (by rfl)) tw1412 tw1414 tp14 tw16 tw1415 (rv_X11 C) rfl ⟨by decide +kernel, by decide +kernel, rfl⟩ ⟨rfl, rfl⟩ (by rw [hR]; decide) (Nat.le_of_ble_eq_true rfl) (by rw [hR]; decide) (fun r_7 X1 M1 K1 h_8 => ?_)
      obtain ⟨rfl, hX1, hM1, hK1⟩ := h_8
      subst X1 M1 K1
      refine g_if_ne C dX11_addStep_41 (tgt := 80) (by decide) (fun c_41 => absurd c_41 (by decide)) (fun c_41 => ?_)
      refine g_aload_n C dX11_addStep_44 0 rfl ?_
      refine g_aload_n C dX11_addStep_45 0 rfl ?_
      refine gf_X11_steps C tw1263 dX11_addStep_46 ?_
      refine g_topi hz ?_
      refine g_bipush C dX11_addStep_49 (v := 16) (by decide) ?_
      refine g_icmp_eq C dX11_addStep_51 (tgt := 68) (by decide) (fun c_51 => ?_) (fun c_51 => ?_)
      · try simp only [sa_ap, si_ap, reduceIte, Nat.reduceEqDiff, up_us, lg_cmp_lt, lg_cmp_gt, lg_cmp_le, lg_cmp_ge] at c_51
        refine g_iconst C dX11_addStep_68 (v := 1) (by decide) ?_
        refine g_goto C dX11_addStep_69 (tgt := 73) (by decide) ?_
        refine g_iconst C dX11_addStep_73 (v := 2) (by decide) ?_
        refine g_callViW C dX11_addStep_74 (c_X11_fails_1 _ _ _ _ _ _ _ _ _ _ (by rfl) (by decide)) tw1412 tw1414 tp14 tw16 tw1415 (rv_X11 C) rfl ⟨by decide +kernel, by decide +kernel, rfl⟩ ⟨rfl, rfl⟩ (by rw [hR]; decide) (Nat.le_of_ble_eq_true rfl) (by rw [hR]; decide) (fun r_9 X1 M1 K1 h_10 => ?_)
        obtain ⟨rfl, hX1, hM1, hK1⟩ := h_10
        subst X1 M1 K1
        refine g_if_eq C dX11_addStep_77 (tgt := 82) (by decide) (fun c_77 => absurd c_77 (by decide)) (fun c_77 => ?_)
        refine g_iconst C dX11_addStep_80 (v := 0) (by decide) ?_
        refine g_iretW C hr hQ (Nat.le_refl _) (Nat.le_refl _) dX11_addStep_81 ?_
        exact ⟨(by first | with_reducible rfl | (subst er_1 er_5; first | with_reducible rfl | (simp only [sa_ap, si_ap, si_sa, sa_sa, sa_3, sa_4, sa_5, sa_6, sa_7, sa_8, xs_step, xs_go, hz, up_us, up_up, xs_b, c_17, c_29, c_51]; done) | (simp [sa_ap, si_ap, si_sa, sa_sa, sa_3, sa_4, sa_5, sa_6, sa_7, sa_8, xs_step, xs_go, hz, up_us, up_up, xs_b, c_17, c_29, c_51]; done))), rfl, (by first | with_reducible rfl | (subst er_1 er_5; first | with_reducible rfl | (simp only [sa_ap, si_ap, si_sa, sa_sa, sa_3, sa_4, sa_5, sa_6, sa_7, sa_8, xs_step, xs_go, hz, up_us, up_up, xs_b, c_17, c_29, c_51]; done) | (simp [sa_ap, si_ap, si_sa, sa_sa, sa_3, sa_4, sa_5, sa_6, sa_7, sa_8, xs_step, xs_go, hz, up_us, up_up, xs_b, c_17, c_29, c_51]; done))), rfl⟩
      · try simp only [sa_ap, si_ap, reduceIte, Nat.reduceEqDiff, up_us, lg_cmp_lt, lg_cmp_gt, lg_cmp_le, lg_cmp_ge] at c_51
        have hlt : z < 16 := Nat.lt_of_le_of_ne hzl (fun q => c_51 (by rw [q]; rfl))
        refine g_aload_n C dX11_addStep_54 0 rfl ?_
        refine g_callViW C dX11_addStep_55 (c_X11_isCounting _ _ _ _ _ _ _ _ _ ) tw1436 tw1438 tp15 tw16 tw1439 (rv_X11 C) rfl ⟨by decide +kernel, by decide +kernel, rfl⟩ ⟨rfl, rfl⟩ (by rw [hR]; decide) (Nat.le_of_ble_eq_true rfl) (by rw [hR]; decide) (fun r_11 X1 M1 K1 h_12 => ?_)
        obtain ⟨er_11, hX1, hM1, hK1⟩ := h_12
        subst X1 M1 K1
        try simp only [sa_ap, si_ap, reduceIte, Nat.reduceEqDiff] at er_11
        refine g_if_ne C dX11_addStep_58 (tgt := 68) (by decide) (fun c_58 => ?_) (fun c_58 => ?_)
        · try simp only [sa_ap, si_ap, reduceIte, Nat.reduceEqDiff, up_us, lg_cmp_lt, lg_cmp_gt, lg_cmp_le, lg_cmp_ge] at c_58
          refine g_iconst C dX11_addStep_68 (v := 1) (by decide) ?_
          refine g_goto C dX11_addStep_69 (tgt := 73) (by decide) ?_
          refine g_iconst C dX11_addStep_73 (v := 2) (by decide) ?_
          refine g_callViW C dX11_addStep_74 (c_X11_fails_1 _ _ _ _ _ _ _ _ _ _ (by rfl) (by decide)) tw1412 tw1414 tp14 tw16 tw1415 (rv_X11 C) rfl ⟨by decide +kernel, by decide +kernel, rfl⟩ ⟨rfl, rfl⟩ (by rw [hR]; decide) (Nat.le_of_ble_eq_true rfl) (by rw [hR]; decide) (fun r_13 X1 M1 K1 h_14 => ?_)
          obtain ⟨rfl, hX1, hM1, hK1⟩ := h_14
          subst X1 M1 K1
          refine g_if_eq C dX11_addStep_77 (tgt := 82) (by decide) (fun c_77 => absurd c_77 (by decide)) (fun c_77 => ?_)
          refine g_iconst C dX11_addStep_80 (v := 0) (by decide) ?_
          refine g_iretW C hr hQ (Nat.le_refl _) (Nat.le_refl _) dX11_addStep_81 ?_
          exact ⟨(by first | with_reducible rfl | (subst er_1 er_5 er_11; first | with_reducible rfl | (simp only [sa_ap, si_ap, si_sa, sa_sa, sa_3, sa_4, sa_5, sa_6, sa_7, sa_8, xs_step, xs_go, hz, up_us, up_up, xs_b, c_17, c_29, c_51, c_58]; done) | (simp [sa_ap, si_ap, si_sa, sa_sa, sa_3, sa_4, sa_5, sa_6, sa_7, sa_8, xs_step, xs_go, hz, up_us, up_up, xs_b, c_17, c_29, c_51, c_58]; done))), rfl, (by first | with_reducible rfl | (subst er_1 er_5 er_11; first | with_reducible rfl | (simp only [sa_ap, si_ap, si_sa, sa_sa, sa_3, sa_4, sa_5, sa_6, sa_7, sa_8, xs_step, xs_go, hz, up_us, up_up, xs_b, c_17, c_29, c_51, c_58]; done) | (simp [sa_ap, si_ap, si_sa, sa_sa, sa_3, sa_4, sa_5, sa_6, sa_7, sa_8, xs_step, xs_go, hz, up_us, up_up, xs_b, c_17, c_29, c_51, c_58]; done))), rfl⟩
        · try simp only [sa_ap, si_ap, reduceIte, Nat.reduceEqDiff, up_us, lg_cmp_lt, lg_cmp_gt, lg_cmp_le, lg_cmp_ge] at c_58
          refine g_aload_n C dX11_addStep_61 0 rfl ?_
          refine g_callViW C dX11_addStep_62 (c_X11_hasLeft _ _ _ _ _ _ _ _ _ ) tw1440 tw1442 tp16 tw16 tw1443 (rv_X11 C) rfl ⟨by decide +kernel, by decide +kernel, rfl⟩ ⟨rfl, rfl⟩ (by rw [hR]; decide) (Nat.le_of_ble_eq_true rfl) (by rw [hR]; decide) (fun r_15 X1 M1 K1 h_16 => ?_)
          obtain ⟨er_15, hX1, hM1, hK1⟩ := h_16
          subst X1 M1 K1
          try simp only [sa_ap, si_ap, reduceIte, Nat.reduceEqDiff] at er_15
          refine g_if_eq C dX11_addStep_65 (tgt := 72) (by decide) (fun c_65 => ?_) (fun c_65 => ?_)
          · try simp only [sa_ap, si_ap, reduceIte, Nat.reduceEqDiff, up_us, lg_cmp_lt, lg_cmp_gt, lg_cmp_le, lg_cmp_ge] at c_65
            refine g_iconst C dX11_addStep_72 (v := 0) (by decide) ?_
            refine g_iconst C dX11_addStep_73 (v := 2) (by decide) ?_
            refine g_callViW C dX11_addStep_74 (c_X11_fails_0 _ _ _ _ _ _ _ _ _ _ (by rfl)) tw1412 tw1414 tp14 tw16 tw1415 (rv_X11 C) rfl ⟨by decide +kernel, by decide +kernel, rfl⟩ ⟨rfl, rfl⟩ (by rw [hR]; decide) (Nat.le_of_ble_eq_true rfl) (by rw [hR]; decide) (fun r_17 X1 M1 K1 h_18 => ?_)
            obtain ⟨rfl, hX1, hM1, hK1⟩ := h_18
            subst X1 M1 K1
            refine g_if_eq C dX11_addStep_77 (tgt := 82) (by decide) (fun c_77 => ?_) (fun c_77 => absurd (by decide) c_77)
            refine g_aload_n C dX11_addStep_82 0 rfl ?_
            refine gf_X11_from C tw1264 dX11_addStep_83 ?_
            refine g_aload_n C dX11_addStep_86 0 rfl ?_
            refine gf_X11_steps C tw1263 dX11_addStep_87 ?_
            refine g_topi hz ?_
            refine g_iload_n C dX11_addStep_90 1 rfl ?_
            refine as_48 C (by omega) dX11_addStep_91 ?_
            refine g_aload_n C dX11_addStep_92 0 rfl ?_
            refine gf_X11_takes C tw1265 dX11_addStep_93 ?_
            refine g_aload_n C dX11_addStep_96 0 rfl ?_
            refine gf_X11_steps C tw1263 dX11_addStep_97 ?_
            refine g_topi hz ?_
            refine g_iload_n C dX11_addStep_100 2 rfl ?_
            refine as_49 C (by omega) dX11_addStep_101 ?_
            refine g_aload_n C dX11_addStep_102 0 rfl ?_
            refine gf_X11_stepState C tw1267 dX11_addStep_103 ?_
            refine g_aload_n C dX11_addStep_106 0 rfl ?_
            refine gf_X11_steps C tw1263 dX11_addStep_107 ?_
            refine g_topi hz ?_
            refine g_bipush C dX11_addStep_110 (v := 45) (by decide) ?_
            refine as_51 C ⟨by decide, by decide⟩ (by omega) dX11_addStep_112 ?_
            refine g_aload_n C dX11_addStep_113 0 rfl ?_
            refine g_dup C dX11_addStep_114 rfl ?_
            refine gf_X11_steps C tw1263 dX11_addStep_115 ?_
            refine g_topi hz ?_
            refine g_iconst C dX11_addStep_118 (v := 1) (by decide) ?_
            refine g_iadd C dX11_addStep_119 ?_
            refine pf_X11_steps C tw1263 dX11_addStep_120 ?_
            refine g_aload_n C dX11_addStep_123 0 rfl ?_
            refine gf_X11_steps C tw1263 dX11_addStep_124 ?_
            refine g_topi rfl ?_
            refine g_iconst C dX11_addStep_127 (v := 1) (by decide) ?_
            refine g_isub C dX11_addStep_128 ?_
            refine g_topi (y := nI z) (by show nI z + 1 - 1 = nI z; rw [nI_1, nI_pred]) ?_
            refine g_iretW C hr hQ (Nat.le_refl _) (Nat.le_refl _) dX11_addStep_129 ?_
            exact ⟨(by first | with_reducible rfl | (subst er_1 er_5 er_11 er_15; first | with_reducible rfl | (simp only [sa_ap, si_ap, si_sa, sa_sa, sa_3, sa_4, sa_5, sa_6, sa_7, sa_8, xs_step, xs_go, hz, up_us, up_up, xs_b, c_17, c_29, c_51, c_58, c_65]; done) | (simp [sa_ap, si_ap, si_sa, sa_sa, sa_3, sa_4, sa_5, sa_6, sa_7, sa_8, xs_step, xs_go, hz, up_us, up_up, xs_b, c_17, c_29, c_51, c_58, c_65]; done))), rfl, (by first | with_reducible rfl | (subst er_1 er_5 er_11 er_15; first | with_reducible rfl | (simp only [sa_ap, si_ap, si_sa, sa_sa, sa_3, sa_4, sa_5, sa_6, sa_7, sa_8, xs_step, xs_go, hz, up_us, up_up, xs_b, c_17, c_29, c_51, c_58, c_65]; done) | (simp [sa_ap, si_ap, si_sa, sa_sa, sa_3, sa_4, sa_5, sa_6, sa_7, sa_8, xs_step, xs_go, hz, up_us, up_up, xs_b, c_17, c_29, c_51, c_58, c_65]; done))), rfl⟩
          · try simp only [sa_ap, si_ap, reduceIte, Nat.reduceEqDiff, up_us, lg_cmp_lt, lg_cmp_gt, lg_cmp_le, lg_cmp_ge] at c_65
            refine g_iconst C dX11_addStep_68 (v := 1) (by decide) ?_
            refine g_goto C dX11_addStep_69 (tgt := 73) (by decide) ?_
            refine g_iconst C dX11_addStep_73 (v := 2) (by decide) ?_
            refine g_callViW C dX11_addStep_74 (c_X11_fails_1 _ _ _ _ _ _ _ _ _ _ (by rfl) (by decide)) tw1412 tw1414 tp14 tw16 tw1415 (rv_X11 C) rfl ⟨by decide +kernel, by decide +kernel, rfl⟩ ⟨rfl, rfl⟩ (by rw [hR]; decide) (Nat.le_of_ble_eq_true rfl) (by rw [hR]; decide) (fun r_19 X1 M1 K1 h_20 => ?_)
            obtain ⟨rfl, hX1, hM1, hK1⟩ := h_20
            subst X1 M1 K1
            refine g_if_eq C dX11_addStep_77 (tgt := 82) (by decide) (fun c_77 => absurd c_77 (by decide)) (fun c_77 => ?_)
            refine g_iconst C dX11_addStep_80 (v := 0) (by decide) ?_
            refine g_iretW C hr hQ (Nat.le_refl _) (Nat.le_refl _) dX11_addStep_81 ?_
            exact ⟨(by first | with_reducible rfl | (subst er_1 er_5 er_11 er_15; first | with_reducible rfl | (simp only [sa_ap, si_ap, si_sa, sa_sa, sa_3, sa_4, sa_5, sa_6, sa_7, sa_8, xs_step, xs_go, hz, up_us, up_up, xs_b, c_17, c_29, c_51, c_58, c_65]; done) | (simp [sa_ap, si_ap, si_sa, sa_sa, sa_3, sa_4, sa_5, sa_6, sa_7, sa_8, xs_step, xs_go, hz, up_us, up_up, xs_b, c_17, c_29, c_51, c_58, c_65]; done))), rfl, (by first | with_reducible rfl | (subst er_1 er_5 er_11 er_15; first | with_reducible rfl | (simp only [sa_ap, si_ap, si_sa, sa_sa, sa_3, sa_4, sa_5, sa_6, sa_7, sa_8, xs_step, xs_go, hz, up_us, up_up, xs_b, c_17, c_29, c_51, c_58, c_65]; done) | (simp [sa_ap, si_ap, si_sa, sa_sa, sa_3, sa_4, sa_5, sa_6, sa_7, sa_8, xs_step, xs_go, hz, up_us, up_up, xs_b, c_17, c_29, c_51, c_58, c_65]; done))), rfl⟩
    · try simp only [sa_ap, si_ap, reduceIte, Nat.reduceEqDiff, up_us, lg_cmp_lt, lg_cmp_gt, lg_cmp_le, lg_cmp_ge] at c_29
      refine g_iconst C dX11_addStep_32 (v := 1) (by decide) ?_
      refine g_goto C dX11_addStep_33 (tgt := 37) (by decide) ?_
      refine g_iconst C dX11_addStep_37 (v := 1) (by decide) ?_
      refine g_callViW C dX11_addStep_38 (c_X11_fails_1 _ _ _ _ _ _ _ _ _ _ (by rfl) (by decide)) tw1412 tw1414 tp14 tw16 tw1415 (rv_X11 C) rfl ⟨by decide +kernel, by decide +kernel, rfl⟩ ⟨rfl, rfl⟩ (by rw [hR]; decide) (Nat.le_of_ble_eq_true rfl) (by rw [hR]; decide) (fun r_21 X1 M1 K1 h_22 => ?_)
      obtain ⟨rfl, hX1, hM1, hK1⟩ := h_22
      subst X1 M1 K1
      refine g_if_ne C dX11_addStep_41 (tgt := 80) (by decide) (fun c_41 => ?_) (fun c_41 => absurd c_41 (by decide))
      refine g_iconst C dX11_addStep_80 (v := 0) (by decide) ?_
      refine g_iretW C hr hQ (Nat.le_refl _) (Nat.le_refl _) dX11_addStep_81 ?_
      exact ⟨(by first | with_reducible rfl | (subst er_1 er_5; first | with_reducible rfl | (simp only [sa_ap, si_ap, si_sa, sa_sa, sa_3, sa_4, sa_5, sa_6, sa_7, sa_8, xs_step, xs_go, hz, up_us, up_up, xs_b, c_17, c_29]; done) | (simp [sa_ap, si_ap, si_sa, sa_sa, sa_3, sa_4, sa_5, sa_6, sa_7, sa_8, xs_step, xs_go, hz, up_us, up_up, xs_b, c_17, c_29]; done))), rfl, (by first | with_reducible rfl | (subst er_1 er_5; first | with_reducible rfl | (simp only [sa_ap, si_ap, si_sa, sa_sa, sa_3, sa_4, sa_5, sa_6, sa_7, sa_8, xs_step, xs_go, hz, up_us, up_up, xs_b, c_17, c_29]; done) | (simp [sa_ap, si_ap, si_sa, sa_sa, sa_3, sa_4, sa_5, sa_6, sa_7, sa_8, xs_step, xs_go, hz, up_us, up_up, xs_b, c_17, c_29]; done))), rfl⟩

set_option maxHeartbeats 400000 in
set_option maxRecDepth 100000 in
/-- setAfter.setAfter -/
theorem c_X11_setAfter (l : Launch) (D : va_G) (cy : Nat → ClassId) (A : Nat → Prop) (ad sad : Nat → Nat) (X M : XF) (K : KF) (p1 p2 : Int32) (z : Nat) (hz : M 113 0 = nI z) (hzl : z ≤ 16) : Met l yX11_setAfter (wsA yX11_setAfter cX11_setAfter 3 (some .int)) ({ frames := 2, cells := 0, slots := 0, locals := 46 }) (PcW D cy A ad sad X M K [.ref (ad 42), .int p1, .int p2]) (QiW D cy A ad (fun r X1 M1 K1 => r = (if xs_after (M 113 0) (M 102 0) p1 p2 = 0 then bcnt (M 50 p1.toNatClampNeg ||| (1 <<< (p2 &&& 31))) else 0) ∧ X1 = X ∧ M1 = (if xs_after (M 113 0) (M 102 0) p1 p2 = 0 then sa (si M 100 0) 50 (upd (M 50) p1.toNatClampNeg (M 50 p1.toNatClampNeg ||| (1 <<< (p2 &&& 31)))) else si M 100 (xs_after (M 113 0) (M 102 0) p1 p2)) ∧ K1 = K)) 0 0 A := by
  refine met_ofW [(0, .ref (ad 42)), (1, .int p1), (2, .int p2)] (by decide +kernel) (Nat.le_of_ble_eq_true rfl) rfl ?_
  intro G C hl hR hL hD hcy hA had hsa hr hQ
  subst hD hcy hA had hsa hl
  refine g_aload_n C dX11_setAfter_0 0 rfl ?_
  refine g_iconst C dX11_setAfter_1 (v := 0) (by decide) ?_
  refine pf_X11_thrown C tw1243 dX11_setAfter_2 ?_
  refine g_aload_n C dX11_setAfter_5 0 rfl ?_
  refine g_aload_n C dX11_setAfter_6 0 rfl ?_
  refine g_iload_n C dX11_setAfter_7 1 rfl ?_
  refine g_callViW C dX11_setAfter_8 (c_X11_noStep _ _ _ _ _ _ _ _ _ _) tw1448 tw1450 tp17 tw16 tw1451 (rv_X11 C) rfl ⟨by decide +kernel, by decide +kernel, rfl⟩ ⟨rfl, rfl⟩ (by rw [hR]; decide) (Nat.le_of_ble_eq_true rfl) (by rw [hR]; decide) (fun r_1 X1 M1 K1 h_2 => ?_)
  obtain ⟨er_1, hX1, hM1, hK1⟩ := h_2
  subst X1 M1 K1
  try simp only [sa_ap, si_ap, reduceIte, Nat.reduceEqDiff] at er_1
  refine g_if_ne C dX11_setAfter_11 (tgt := 22) (by decide) (fun c_11 => ?_) (fun c_11 => ?_)
  · try simp only [sa_ap, si_ap, reduceIte, Nat.reduceEqDiff, up_us, lg_cmp_lt, lg_cmp_gt, lg_cmp_le, lg_cmp_ge] at c_11
    refine g_iconst C dX11_setAfter_22 (v := 1) (by decide) ?_
    refine g_goto C dX11_setAfter_23 (tgt := 27) (by decide) ?_
    refine g_iconst C dX11_setAfter_27 (v := 1) (by decide) ?_
    refine g_callViW C dX11_setAfter_28 (c_X11_fails_1 _ _ _ _ _ _ _ _ _ _ (by rfl) (by decide)) tw1412 tw1414 tp14 tw16 tw1415 (rv_X11 C) rfl ⟨by decide +kernel, by decide +kernel, rfl⟩ ⟨rfl, rfl⟩ (by rw [hR]; decide) (Nat.le_of_ble_eq_true rfl) (by rw [hR]; decide) (fun r_3 X1 M1 K1 h_4 => ?_)
    obtain ⟨rfl, hX1, hM1, hK1⟩ := h_4
    subst X1 M1 K1
    refine g_if_ne C dX11_setAfter_31 (tgt := 79) (by decide) (fun c_31 => ?_) (fun c_31 => absurd c_31 (by decide))
    refine g_iconst C dX11_setAfter_79 (v := 0) (by decide) ?_
    refine g_iretW C hr hQ (Nat.le_refl _) (Nat.le_refl _) dX11_setAfter_80 ?_
    exact ⟨(by first | with_reducible rfl | (subst er_1; first | with_reducible rfl | (simp only [sa_ap, si_ap, si_sa, sa_sa, sa_3, sa_4, sa_5, sa_6, sa_7, sa_8, xs_after, xs_go, up_us, up_up, xs_b, c_11]; done) | (simp [sa_ap, si_ap, si_sa, sa_sa, sa_3, sa_4, sa_5, sa_6, sa_7, sa_8, xs_after, xs_go, up_us, up_up, xs_b, c_11]; done))), rfl, (by first | with_reducible rfl | (subst er_1; first | with_reducible rfl | (simp only [sa_ap, si_ap, si_sa, sa_sa, sa_3, sa_4, sa_5, sa_6, sa_7, sa_8, xs_after, xs_go, up_us, up_up, xs_b, c_11]; done) | (simp [sa_ap, si_ap, si_sa, sa_sa, sa_3, sa_4, sa_5, sa_6, sa_7, sa_8, xs_after, xs_go, up_us, up_up, xs_b, c_11]; done))), rfl⟩
  · try simp only [sa_ap, si_ap, reduceIte, Nat.reduceEqDiff, up_us, lg_cmp_lt, lg_cmp_gt, lg_cmp_le, lg_cmp_ge] at c_11
    obtain ⟨j, hj, rfl⟩ := md_no_ix (p := p1) hz hzl (by rw [← er_1]; exact c_11)
    have c_clj : (nI j).toNatClampNeg = j := nI_clamp (by omega)
    refine g_aload_n C dX11_setAfter_14 0 rfl ?_
    refine g_iload_n C dX11_setAfter_15 2 rfl ?_
    refine g_callViW C dX11_setAfter_16 (c_X11_noStep _ _ _ _ _ _ _ _ _ _) tw1448 tw1450 tp17 tw16 tw1451 (rv_X11 C) rfl ⟨by decide +kernel, by decide +kernel, rfl⟩ ⟨rfl, rfl⟩ (by rw [hR]; decide) (Nat.le_of_ble_eq_true rfl) (by rw [hR]; decide) (fun r_5 X1 M1 K1 h_6 => ?_)
    obtain ⟨er_5, hX1, hM1, hK1⟩ := h_6
    subst X1 M1 K1
    try simp only [sa_ap, si_ap, reduceIte, Nat.reduceEqDiff] at er_5
    refine g_if_eq C dX11_setAfter_19 (tgt := 26) (by decide) (fun c_19 => ?_) (fun c_19 => ?_)
    · try simp only [sa_ap, si_ap, reduceIte, Nat.reduceEqDiff, up_us, lg_cmp_lt, lg_cmp_gt, lg_cmp_le, lg_cmp_ge] at c_19
      refine g_iconst C dX11_setAfter_26 (v := 0) (by decide) ?_
      refine g_iconst C dX11_setAfter_27 (v := 1) (by decide) ?_
      refine g_callViW C dX11_setAfter_28 (c_X11_fails_0 _ _ _ _ _ _ _ _ _ _ (by rfl)) tw1412 tw1414 tp14 tw16 tw1415 (rv_X11 C) rfl ⟨by decide +kernel, by decide +kernel, rfl⟩ ⟨rfl, rfl⟩ (by rw [hR]; decide) (Nat.le_of_ble_eq_true rfl) (by rw [hR]; decide) (fun r_7 X1 M1 K1 h_8 => ?_)
      obtain ⟨rfl, hX1, hM1, hK1⟩ := h_8
      subst X1 M1 K1
      refine g_if_ne C dX11_setAfter_31 (tgt := 79) (by decide) (fun c_31 => absurd c_31 (by decide)) (fun c_31 => ?_)
      refine g_aload_n C dX11_setAfter_34 0 rfl ?_
      refine g_iload_n C dX11_setAfter_35 2 rfl ?_
      refine g_iload_n C dX11_setAfter_36 1 rfl ?_
      refine g_icmp_lt C dX11_setAfter_37 (tgt := 44) (by decide) (fun c_37 => ?_) (fun c_37 => ?_)
      · try simp only [sa_ap, si_ap, reduceIte, Nat.reduceEqDiff, up_us, lg_cmp_lt, lg_cmp_gt, lg_cmp_le, lg_cmp_ge] at c_37
        refine g_iconst C dX11_setAfter_44 (v := 0) (by decide) ?_
        refine g_iconst C dX11_setAfter_45 (v := 2) (by decide) ?_
        refine g_callViW C dX11_setAfter_46 (c_X11_fails_0 _ _ _ _ _ _ _ _ _ _ (by rfl)) tw1412 tw1414 tp14 tw16 tw1415 (rv_X11 C) rfl ⟨by decide +kernel, by decide +kernel, rfl⟩ ⟨rfl, rfl⟩ (by rw [hR]; decide) (Nat.le_of_ble_eq_true rfl) (by rw [hR]; decide) (fun r_9 X1 M1 K1 h_10 => ?_)
        obtain ⟨rfl, hX1, hM1, hK1⟩ := h_10
        subst X1 M1 K1
        refine g_if_ne C dX11_setAfter_49 (tgt := 79) (by decide) (fun c_49 => absurd c_49 (by decide)) (fun c_49 => ?_)
        refine g_aload_n C dX11_setAfter_52 0 rfl ?_
        refine g_aload_n C dX11_setAfter_53 0 rfl ?_
        refine g_callViW C dX11_setAfter_54 (c_X11_isCounting _ _ _ _ _ _ _ _ _ ) tw1436 tw1438 tp15 tw16 tw1439 (rv_X11 C) rfl ⟨by decide +kernel, by decide +kernel, rfl⟩ ⟨rfl, rfl⟩ (by rw [hR]; decide) (Nat.le_of_ble_eq_true rfl) (by rw [hR]; decide) (fun r_11 X1 M1 K1 h_12 => ?_)
        obtain ⟨er_11, hX1, hM1, hK1⟩ := h_12
        subst X1 M1 K1
        try simp only [sa_ap, si_ap, reduceIte, Nat.reduceEqDiff] at er_11
        refine g_if_ne C dX11_setAfter_57 (tgt := 67) (by decide) (fun c_57 => ?_) (fun c_57 => ?_)
        · try simp only [sa_ap, si_ap, reduceIte, Nat.reduceEqDiff, up_us, lg_cmp_lt, lg_cmp_gt, lg_cmp_le, lg_cmp_ge] at c_57
          refine g_iconst C dX11_setAfter_67 (v := 1) (by decide) ?_
          refine g_goto C dX11_setAfter_68 (tgt := 72) (by decide) ?_
          refine g_iconst C dX11_setAfter_72 (v := 3) (by decide) ?_
          refine g_callViW C dX11_setAfter_73 (c_X11_fails_1 _ _ _ _ _ _ _ _ _ _ (by rfl) (by decide)) tw1412 tw1414 tp14 tw16 tw1415 (rv_X11 C) rfl ⟨by decide +kernel, by decide +kernel, rfl⟩ ⟨rfl, rfl⟩ (by rw [hR]; decide) (Nat.le_of_ble_eq_true rfl) (by rw [hR]; decide) (fun r_13 X1 M1 K1 h_14 => ?_)
          obtain ⟨rfl, hX1, hM1, hK1⟩ := h_14
          subst X1 M1 K1
          refine g_if_eq C dX11_setAfter_76 (tgt := 81) (by decide) (fun c_76 => absurd c_76 (by decide)) (fun c_76 => ?_)
          refine g_iconst C dX11_setAfter_79 (v := 0) (by decide) ?_
          refine g_iretW C hr hQ (Nat.le_refl _) (Nat.le_refl _) dX11_setAfter_80 ?_
          exact ⟨(by first | with_reducible rfl | (subst er_1 er_5 er_11; first | with_reducible rfl | (simp only [sa_ap, si_ap, si_sa, sa_sa, sa_3, sa_4, sa_5, sa_6, sa_7, sa_8, xs_after, xs_go, up_us, up_up, xs_b, c_11, c_clj, c_19, c_37, c_57]; done) | (simp [sa_ap, si_ap, si_sa, sa_sa, sa_3, sa_4, sa_5, sa_6, sa_7, sa_8, xs_after, xs_go, up_us, up_up, xs_b, c_11, c_clj, c_19, c_37, c_57]; done))), rfl, (by first | with_reducible rfl | (subst er_1 er_5 er_11; first | with_reducible rfl | (simp only [sa_ap, si_ap, si_sa, sa_sa, sa_3, sa_4, sa_5, sa_6, sa_7, sa_8, xs_after, xs_go, up_us, up_up, xs_b, c_11, c_clj, c_19, c_37, c_57]; done) | (simp [sa_ap, si_ap, si_sa, sa_sa, sa_3, sa_4, sa_5, sa_6, sa_7, sa_8, xs_after, xs_go, up_us, up_up, xs_b, c_11, c_clj, c_19, c_37, c_57]; done))), rfl⟩
        · try simp only [sa_ap, si_ap, reduceIte, Nat.reduceEqDiff, up_us, lg_cmp_lt, lg_cmp_gt, lg_cmp_le, lg_cmp_ge] at c_57
          refine g_aload_n C dX11_setAfter_60 0 rfl ?_
          refine g_callViW C dX11_setAfter_61 (c_X11_hasLeft _ _ _ _ _ _ _ _ _ ) tw1440 tw1442 tp16 tw16 tw1443 (rv_X11 C) rfl ⟨by decide +kernel, by decide +kernel, rfl⟩ ⟨rfl, rfl⟩ (by rw [hR]; decide) (Nat.le_of_ble_eq_true rfl) (by rw [hR]; decide) (fun r_15 X1 M1 K1 h_16 => ?_)
          obtain ⟨er_15, hX1, hM1, hK1⟩ := h_16
          subst X1 M1 K1
          try simp only [sa_ap, si_ap, reduceIte, Nat.reduceEqDiff] at er_15
          refine g_if_eq C dX11_setAfter_64 (tgt := 71) (by decide) (fun c_64 => ?_) (fun c_64 => ?_)
          · try simp only [sa_ap, si_ap, reduceIte, Nat.reduceEqDiff, up_us, lg_cmp_lt, lg_cmp_gt, lg_cmp_le, lg_cmp_ge] at c_64
            refine g_iconst C dX11_setAfter_71 (v := 0) (by decide) ?_
            refine g_iconst C dX11_setAfter_72 (v := 3) (by decide) ?_
            refine g_callViW C dX11_setAfter_73 (c_X11_fails_0 _ _ _ _ _ _ _ _ _ _ (by rfl)) tw1412 tw1414 tp14 tw16 tw1415 (rv_X11 C) rfl ⟨by decide +kernel, by decide +kernel, rfl⟩ ⟨rfl, rfl⟩ (by rw [hR]; decide) (Nat.le_of_ble_eq_true rfl) (by rw [hR]; decide) (fun r_17 X1 M1 K1 h_18 => ?_)
            obtain ⟨rfl, hX1, hM1, hK1⟩ := h_18
            subst X1 M1 K1
            refine g_if_eq C dX11_setAfter_76 (tgt := 81) (by decide) (fun c_76 => ?_) (fun c_76 => absurd (by decide) c_76)
            refine g_aload_n C dX11_setAfter_81 0 rfl ?_
            refine gf_X11_ahead C tw1266 dX11_setAfter_82 ?_
            refine g_iload_n C dX11_setAfter_85 1 rfl ?_
            refine g_dup2 C dX11_setAfter_86 rfl rfl ?_
            refine al_50 C (by omega) dX11_setAfter_87 ?_
            refine g_iconst C dX11_setAfter_88 (v := 1) (by decide) ?_
            refine g_iload_n C dX11_setAfter_89 2 rfl ?_
            refine g_ishl C dX11_setAfter_90 ?_
            refine g_ior C dX11_setAfter_91 ?_
            refine as_50 C (by omega) dX11_setAfter_92 ?_
            refine g_aload_n C dX11_setAfter_93 0 rfl ?_
            refine gf_X11_ahead C tw1266 dX11_setAfter_94 ?_
            refine g_iload_n C dX11_setAfter_97 1 rfl ?_
            refine al_50 C (by omega) dX11_setAfter_98 ?_
            refine g_callSiW C dX11_setAfter_99 (c_J6_bitCount_0f7a4 _ _ _ _ _ _ _ _ _ _) tw1452 tw788 tw26 tw789 rfl ⟨by decide +kernel, by decide +kernel, rfl⟩ ⟨rfl, rfl⟩ (by rw [hR]; decide) (Nat.le_of_ble_eq_true rfl) (by rw [hR]; decide) (fun r_19 X1 M1 K1 h_20 => ?_)
            obtain ⟨er_19, hX1, hM1, hK1⟩ := h_20
            subst X1 M1 K1
            try simp only [sa_ap, si_ap, reduceIte, Nat.reduceEqDiff] at er_19
            refine g_iretW C hr hQ (Nat.le_refl _) (Nat.le_refl _) dX11_setAfter_102 ?_
            exact ⟨(by first | with_reducible rfl | (subst er_1 er_5 er_11 er_15 er_19; first | with_reducible rfl | (simp only [sa_ap, si_ap, si_sa, sa_sa, sa_3, sa_4, sa_5, sa_6, sa_7, sa_8, xs_after, xs_go, up_us, up_up, xs_b, c_11, c_clj, c_19, c_37, c_57, c_64]; done) | (simp [sa_ap, si_ap, si_sa, sa_sa, sa_3, sa_4, sa_5, sa_6, sa_7, sa_8, xs_after, xs_go, up_us, up_up, xs_b, c_11, c_clj, c_19, c_37, c_57, c_64]; done))), rfl, (by first | with_reducible rfl | (subst er_1 er_5 er_11 er_15 er_19; first | with_reducible rfl | (simp only [sa_ap, si_ap, si_sa, sa_sa, sa_3, sa_4, sa_5, sa_6, sa_7, sa_8, xs_after, xs_go, up_us, up_up, xs_b, c_11, c_clj, c_19, c_37, c_57, c_64]; done) | (simp [sa_ap, si_ap, si_sa, sa_sa, sa_3, sa_4, sa_5, sa_6, sa_7, sa_8, xs_after, xs_go, up_us, up_up, xs_b, c_11, c_clj, c_19, c_37, c_57, c_64]; done))), rfl⟩
          · try simp only [sa_ap, si_ap, reduceIte, Nat.reduceEqDiff, up_us, lg_cmp_lt, lg_cmp_gt, lg_cmp_le, lg_cmp_ge] at c_64
            refine g_iconst C dX11_setAfter_67 (v := 1) (by decide) ?_
            refine g_goto C dX11_setAfter_68 (tgt := 72) (by decide) ?_
            refine g_iconst C dX11_setAfter_72 (v := 3) (by decide) ?_
            refine g_callViW C dX11_setAfter_73 (c_X11_fails_1 _ _ _ _ _ _ _ _ _ _ (by rfl) (by decide)) tw1412 tw1414 tp14 tw16 tw1415 (rv_X11 C) rfl ⟨by decide +kernel, by decide +kernel, rfl⟩ ⟨rfl, rfl⟩ (by rw [hR]; decide) (Nat.le_of_ble_eq_true rfl) (by rw [hR]; decide) (fun r_21 X1 M1 K1 h_22 => ?_)
            obtain ⟨rfl, hX1, hM1, hK1⟩ := h_22
            subst X1 M1 K1
            refine g_if_eq C dX11_setAfter_76 (tgt := 81) (by decide) (fun c_76 => absurd c_76 (by decide)) (fun c_76 => ?_)
            refine g_iconst C dX11_setAfter_79 (v := 0) (by decide) ?_
            refine g_iretW C hr hQ (Nat.le_refl _) (Nat.le_refl _) dX11_setAfter_80 ?_
            exact ⟨(by first | with_reducible rfl | (subst er_1 er_5 er_11 er_15; first | with_reducible rfl | (simp only [sa_ap, si_ap, si_sa, sa_sa, sa_3, sa_4, sa_5, sa_6, sa_7, sa_8, xs_after, xs_go, up_us, up_up, xs_b, c_11, c_clj, c_19, c_37, c_57, c_64]; done) | (simp [sa_ap, si_ap, si_sa, sa_sa, sa_3, sa_4, sa_5, sa_6, sa_7, sa_8, xs_after, xs_go, up_us, up_up, xs_b, c_11, c_clj, c_19, c_37, c_57, c_64]; done))), rfl, (by first | with_reducible rfl | (subst er_1 er_5 er_11 er_15; first | with_reducible rfl | (simp only [sa_ap, si_ap, si_sa, sa_sa, sa_3, sa_4, sa_5, sa_6, sa_7, sa_8, xs_after, xs_go, up_us, up_up, xs_b, c_11, c_clj, c_19, c_37, c_57, c_64]; done) | (simp [sa_ap, si_ap, si_sa, sa_sa, sa_3, sa_4, sa_5, sa_6, sa_7, sa_8, xs_after, xs_go, up_us, up_up, xs_b, c_11, c_clj, c_19, c_37, c_57, c_64]; done))), rfl⟩
      · try simp only [sa_ap, si_ap, reduceIte, Nat.reduceEqDiff, up_us, lg_cmp_lt, lg_cmp_gt, lg_cmp_le, lg_cmp_ge] at c_37
        refine g_iconst C dX11_setAfter_40 (v := 1) (by decide) ?_
        refine g_goto C dX11_setAfter_41 (tgt := 45) (by decide) ?_
        refine g_iconst C dX11_setAfter_45 (v := 2) (by decide) ?_
        refine g_callViW C dX11_setAfter_46 (c_X11_fails_1 _ _ _ _ _ _ _ _ _ _ (by rfl) (by decide)) tw1412 tw1414 tp14 tw16 tw1415 (rv_X11 C) rfl ⟨by decide +kernel, by decide +kernel, rfl⟩ ⟨rfl, rfl⟩ (by rw [hR]; decide) (Nat.le_of_ble_eq_true rfl) (by rw [hR]; decide) (fun r_23 X1 M1 K1 h_24 => ?_)
        obtain ⟨rfl, hX1, hM1, hK1⟩ := h_24
        subst X1 M1 K1
        refine g_if_ne C dX11_setAfter_49 (tgt := 79) (by decide) (fun c_49 => ?_) (fun c_49 => absurd c_49 (by decide))
        refine g_iconst C dX11_setAfter_79 (v := 0) (by decide) ?_
        refine g_iretW C hr hQ (Nat.le_refl _) (Nat.le_refl _) dX11_setAfter_80 ?_
        exact ⟨(by first | with_reducible rfl | (subst er_1 er_5; first | with_reducible rfl | (simp only [sa_ap, si_ap, si_sa, sa_sa, sa_3, sa_4, sa_5, sa_6, sa_7, sa_8, xs_after, xs_go, up_us, up_up, xs_b, c_11, c_clj, c_19, c_37]; done) | (simp [sa_ap, si_ap, si_sa, sa_sa, sa_3, sa_4, sa_5, sa_6, sa_7, sa_8, xs_after, xs_go, up_us, up_up, xs_b, c_11, c_clj, c_19, c_37]; done))), rfl, (by first | with_reducible rfl | (subst er_1 er_5; first | with_reducible rfl | (simp only [sa_ap, si_ap, si_sa, sa_sa, sa_3, sa_4, sa_5, sa_6, sa_7, sa_8, xs_after, xs_go, up_us, up_up, xs_b, c_11, c_clj, c_19, c_37]; done) | (simp [sa_ap, si_ap, si_sa, sa_sa, sa_3, sa_4, sa_5, sa_6, sa_7, sa_8, xs_after, xs_go, up_us, up_up, xs_b, c_11, c_clj, c_19, c_37]; done))), rfl⟩
    · try simp only [sa_ap, si_ap, reduceIte, Nat.reduceEqDiff, up_us, lg_cmp_lt, lg_cmp_gt, lg_cmp_le, lg_cmp_ge] at c_19
      refine g_iconst C dX11_setAfter_22 (v := 1) (by decide) ?_
      refine g_goto C dX11_setAfter_23 (tgt := 27) (by decide) ?_
      refine g_iconst C dX11_setAfter_27 (v := 1) (by decide) ?_
      refine g_callViW C dX11_setAfter_28 (c_X11_fails_1 _ _ _ _ _ _ _ _ _ _ (by rfl) (by decide)) tw1412 tw1414 tp14 tw16 tw1415 (rv_X11 C) rfl ⟨by decide +kernel, by decide +kernel, rfl⟩ ⟨rfl, rfl⟩ (by rw [hR]; decide) (Nat.le_of_ble_eq_true rfl) (by rw [hR]; decide) (fun r_25 X1 M1 K1 h_26 => ?_)
      obtain ⟨rfl, hX1, hM1, hK1⟩ := h_26
      subst X1 M1 K1
      refine g_if_ne C dX11_setAfter_31 (tgt := 79) (by decide) (fun c_31 => ?_) (fun c_31 => absurd c_31 (by decide))
      refine g_iconst C dX11_setAfter_79 (v := 0) (by decide) ?_
      refine g_iretW C hr hQ (Nat.le_refl _) (Nat.le_refl _) dX11_setAfter_80 ?_
      exact ⟨(by first | with_reducible rfl | (subst er_1 er_5; first | with_reducible rfl | (simp only [sa_ap, si_ap, si_sa, sa_sa, sa_3, sa_4, sa_5, sa_6, sa_7, sa_8, xs_after, xs_go, up_us, up_up, xs_b, c_11, c_clj, c_19]; done) | (simp [sa_ap, si_ap, si_sa, sa_sa, sa_3, sa_4, sa_5, sa_6, sa_7, sa_8, xs_after, xs_go, up_us, up_up, xs_b, c_11, c_clj, c_19]; done))), rfl, (by first | with_reducible rfl | (subst er_1 er_5; first | with_reducible rfl | (simp only [sa_ap, si_ap, si_sa, sa_sa, sa_3, sa_4, sa_5, sa_6, sa_7, sa_8, xs_after, xs_go, up_us, up_up, xs_b, c_11, c_clj, c_19]; done) | (simp [sa_ap, si_ap, si_sa, sa_sa, sa_3, sa_4, sa_5, sa_6, sa_7, sa_8, xs_after, xs_go, up_us, up_up, xs_b, c_11, c_clj, c_19]; done))), rfl⟩

set_option maxHeartbeats 400000 in
set_option maxRecDepth 100000 in
/-- stepState.stepState -/
theorem c_X11_stepState (l : Launch) (D : va_G) (cy : Nat → ClassId) (A : Nat → Prop) (ad sad : Nat → Nat) (X M : XF) (K : KF) (p1 : Int32) (z : Nat) (hz : M 113 0 = nI z) (hzl : z ≤ 16) (hc : ∀ i : Nat, isCh (M 51 i)) : Met l yX11_stepState (wsA yX11_stepState cX11_stepState 2 (some .char)) ({ frames := 2, cells := 0, slots := 0, locals := 46 }) (PcW D cy A ad sad X M K [.ref (ad 42), .int p1]) (QiW D cy A ad (fun r X1 M1 K1 => r = (if xs_b (md_no p1 (M 113 0)) = 0 then M 51 p1.toNatClampNeg else 0) ∧ X1 = X ∧ M1 = (if xs_b (md_no p1 (M 113 0)) = 0 then si M 100 0 else si M 100 (xs_b (md_no p1 (M 113 0)))) ∧ K1 = K)) 0 0 A := by
  refine met_ofW [(0, .ref (ad 42)), (1, .int p1)] (by decide +kernel) (Nat.le_of_ble_eq_true rfl) rfl ?_
  intro G C hl hR hL hD hcy hA had hsa hr hQ
  subst hD hcy hA had hsa hl
  refine g_aload_n C dX11_stepState_0 0 rfl ?_
  refine g_iconst C dX11_stepState_1 (v := 0) (by decide) ?_
  refine pf_X11_thrown C tw1243 dX11_stepState_2 ?_
  refine g_aload_n C dX11_stepState_5 0 rfl ?_
  refine g_aload_n C dX11_stepState_6 0 rfl ?_
  refine g_iload_n C dX11_stepState_7 1 rfl ?_
  refine g_callViW C dX11_stepState_8 (c_X11_noStep _ _ _ _ _ _ _ _ _ _) tw1448 tw1450 tp17 tw16 tw1451 (rv_X11 C) rfl ⟨by decide +kernel, by decide +kernel, rfl⟩ ⟨rfl, rfl⟩ (by rw [hR]; decide) (Nat.le_of_ble_eq_true rfl) (by rw [hR]; decide) (fun r_1 X1 M1 K1 h_2 => ?_)
  obtain ⟨er_1, hX1, hM1, hK1⟩ := h_2
  subst X1 M1 K1
  try simp only [sa_ap, si_ap, reduceIte, Nat.reduceEqDiff] at er_1
  refine g_iconst C dX11_stepState_11 (v := 1) (by decide) ?_
  refine g_callViW C dX11_stepState_12 (c_X11_fails _ _ _ _ _ _ _ _ _ _ _ (by rfl) (by decide)) tw1412 tw1414 tp14 tw16 tw1415 (rv_X11 C) rfl ⟨by decide +kernel, by decide +kernel, rfl⟩ ⟨rfl, rfl⟩ (by rw [hR]; decide) (Nat.le_of_ble_eq_true rfl) (by rw [hR]; decide) (fun r_3 X1 M1 K1 h_4 => ?_)
  obtain ⟨er_3, hX1, hM1, hK1⟩ := h_4
  subst X1 M1 K1
  try simp only [sa_ap, si_ap, reduceIte, Nat.reduceEqDiff] at er_3
  refine g_if_eq C dX11_stepState_15 (tgt := 22) (by decide) (fun c_15 => ?_) (fun c_15 => ?_)
  · try simp only [sa_ap, si_ap, reduceIte, Nat.reduceEqDiff, up_us, lg_cmp_lt, lg_cmp_gt, lg_cmp_le, lg_cmp_ge] at c_15
    have c_b15 := md_r0 er_3 c_15
    rw [if_pos c_b15]
    obtain ⟨j, hj, rfl⟩ := md_no_ix (p := p1) hz hzl (by rw [← er_1]; exact c_b15)
    have c_clj : (nI j).toNatClampNeg = j := nI_clamp (by omega)
    refine g_aload_n C dX11_stepState_22 0 rfl ?_
    refine gf_X11_stepState C tw1267 dX11_stepState_23 ?_
    refine g_iload_n C dX11_stepState_26 1 rfl ?_
    refine al_51 C (by omega) dX11_stepState_27 ?_
    refine g_zretW C hr (by first | decide | exact (hc _).1) hQ (Nat.le_refl _) (Nat.le_refl _) dX11_stepState_28 ?_
    exact ⟨(by first | with_reducible rfl | (subst er_1 er_3; first | with_reducible rfl | (simp only [sa_ap, si_ap, si_sa, sa_sa, sa_3, sa_4, sa_5, sa_6, sa_7, sa_8, up_us, up_up, xs_b, c_15, c_clj, c_b15]; done) | (simp [sa_ap, si_ap, si_sa, sa_sa, sa_3, sa_4, sa_5, sa_6, sa_7, sa_8, up_us, up_up, xs_b, c_15, c_clj, c_b15]; done))), rfl, (by first | with_reducible rfl | (subst er_1 er_3; first | with_reducible rfl | (simp only [sa_ap, si_ap, si_sa, sa_sa, sa_3, sa_4, sa_5, sa_6, sa_7, sa_8, up_us, up_up, xs_b, c_15, c_clj, c_b15]; done) | (simp [sa_ap, si_ap, si_sa, sa_sa, sa_3, sa_4, sa_5, sa_6, sa_7, sa_8, up_us, up_up, xs_b, c_15, c_clj, c_b15]; done))), rfl⟩
  · try simp only [sa_ap, si_ap, reduceIte, Nat.reduceEqDiff, up_us, lg_cmp_lt, lg_cmp_gt, lg_cmp_le, lg_cmp_ge] at c_15
    have c_b15 := md_r1 er_3 c_15
    rw [if_neg c_b15]
    refine g_iconst C dX11_stepState_18 (v := 0) (by decide) ?_
    refine g_goto C dX11_stepState_19 (tgt := 28) (by decide) ?_
    refine g_zretW C hr (by first | decide | exact (hc _).1) hQ (Nat.le_refl _) (Nat.le_refl _) dX11_stepState_28 ?_
    exact ⟨(by first | with_reducible rfl | (subst er_1 er_3; first | with_reducible rfl | (simp only [sa_ap, si_ap, si_sa, sa_sa, sa_3, sa_4, sa_5, sa_6, sa_7, sa_8, up_us, up_up, xs_b, c_15, c_b15]; done) | (simp [sa_ap, si_ap, si_sa, sa_sa, sa_3, sa_4, sa_5, sa_6, sa_7, sa_8, up_us, up_up, xs_b, c_15, c_b15]; done))), rfl, (by first | with_reducible rfl | (subst er_1 er_3; first | with_reducible rfl | (simp only [sa_ap, si_ap, si_sa, sa_sa, sa_3, sa_4, sa_5, sa_6, sa_7, sa_8, up_us, up_up, xs_b, c_15, c_b15]; done) | (simp [sa_ap, si_ap, si_sa, sa_sa, sa_3, sa_4, sa_5, sa_6, sa_7, sa_8, up_us, up_up, xs_b, c_15, c_b15]; done))), rfl⟩

set_option maxHeartbeats 400000 in
set_option maxRecDepth 100000 in
/-- markAt.markAt -/
theorem c_X11_markAt (l : Launch) (D : va_G) (cy : Nat → ClassId) (A : Nat → Prop) (ad sad : Nat → Nat) (X M : XF) (K : KF) (p1 : Int32) (z : Nat) (hz : M 114 0 = nI z) (hzl : z ≤ 6) : Met l yX11_markAt (wsA yX11_markAt cX11_markAt 4 (some .int)) ({ frames := 0, cells := 0, slots := 0, locals := 0 }) (PcW D cy A ad sad X M K [.ref (ad 42), .int p1]) (QiW D cy A ad (fun r X1 M1 K1 => r = md_at (M 53) p1 z ∧ X1 = X ∧ M1 = M ∧ K1 = K)) 0 0 A := by
  refine met_ofW [(0, .ref (ad 42)), (1, .int p1)] (by decide +kernel) (Nat.le_of_ble_eq_true rfl) rfl ?_
  intro G C hl hR hL hD hcy hA had hsa hr hQ
  subst hD hcy hA had hsa hl
  refine g_iconst C dX11_markAt_0 (v := (-1)) (by decide) ?_
  refine g_istore_n C dX11_markAt_1 (L' := [(2, .int (-1)), (0, .ref (gad G 42)), (1, .int p1)]) rfl (by rw [hL]; decide) ?_
  refine g_iconst C dX11_markAt_2 (v := 0) (by decide) ?_
  refine g_istore_n C dX11_markAt_3 (L' := [(3, .int 0), (2, .int (-1)), (0, .ref (gad G 42)), (1, .int p1)]) rfl (by rw [hL]; decide) ?_
  have lp4 : ∀ (n i : Nat) (a : Int32) (hi : i + n = z) (ha : a = md_at (M 53) p1 i), GH G (WX G X M K) [(0, .ref (gad G 42)), (1, .int p1), (2, .int a), (3, .int (nI i))] 0 0 4 [] := by
    intro n
    induction n with
    | zero =>
      intro i a hi ha
      obtain rfl : z = i := by omega
      refine g_iload_n C dX11_markAt_4 3 rfl ?_
      refine g_aload_n C dX11_markAt_5 0 rfl ?_
      refine gf_X11_marks C tw1269 dX11_markAt_6 ?_
      refine g_topi hz ?_
      refine g_icmp_ge C dX11_markAt_9 (tgt := 34) (by decide) (fun c_9 => ?_) (fun c_9 => absurd (nI_le (a := z) (b := z) (Nat.le_refl _) (by omega)) c_9)
      refine g_iload_n C dX11_markAt_34 2 rfl ?_
      refine g_iretW C hr hQ (Nat.le_refl _) (Nat.le_refl _) dX11_markAt_35 ?_
      exact ⟨(by first | with_reducible rfl | (subst ha; first | with_reducible rfl | (simp only [sa_ap, si_ap, si_sa, sa_sa, sa_3, sa_4, sa_5, sa_6, sa_7, sa_8, md_at, up_us, up_up, xs_b]; done) | (simp [sa_ap, si_ap, si_sa, sa_sa, sa_3, sa_4, sa_5, sa_6, sa_7, sa_8, md_at, up_us, up_up, xs_b]; done))), (by first | with_reducible rfl | (subst ha; first | with_reducible rfl | (simp only [sa_ap, si_ap, si_sa, sa_sa, sa_3, sa_4, sa_5, sa_6, sa_7, sa_8, md_at, up_us, up_up, xs_b]; done) | (simp [sa_ap, si_ap, si_sa, sa_sa, sa_3, sa_4, sa_5, sa_6, sa_7, sa_8, md_at, up_us, up_up, xs_b]; done))), rfl, rfl⟩
    | succ n ih =>
      intro i a hi ha
      refine g_iload_n C dX11_markAt_4 3 rfl ?_
      refine g_aload_n C dX11_markAt_5 0 rfl ?_
      refine gf_X11_marks C tw1269 dX11_markAt_6 ?_
      refine g_topi hz ?_
      refine g_icmp_ge C dX11_markAt_9 (tgt := 34) (by decide) (fun c_9 => absurd c_9 (nI_ge (a := i) (b := z) (by omega) (by omega))) (fun c_9 => ?_)
      refine g_aload_n C dX11_markAt_12 0 rfl ?_
      refine gf_X11_markCount C tw1270 dX11_markAt_13 ?_
      refine g_iload_n C dX11_markAt_16 3 rfl ?_
      refine al_53 C (by omega) dX11_markAt_17 ?_
      refine g_iload_n C dX11_markAt_18 1 rfl ?_
      refine g_icmp_ne C dX11_markAt_19 (tgt := 26) (by decide) (fun c_19 => ?_) (fun c_19 => ?_)
      · try simp only [sa_ap, si_ap, reduceIte, Nat.reduceEqDiff, up_us, lg_cmp_lt, lg_cmp_gt, lg_cmp_le, lg_cmp_ge] at c_19
        refine g_iload_n C dX11_markAt_26 2 rfl ?_
        refine g_istore_n C dX11_markAt_27 (L' := [(2, .int a), (0, .ref (gad G 42)), (1, .int p1), (3, .int (nI i))]) rfl (by rw [hL]; decide) ?_
        refine g_iinc C dX11_markAt_28 3 rfl (v := nI (i + 1)) (nI_1 _) (L' := [(3, .int (nI (i + 1))), (2, .int a), (0, .ref (gad G 42)), (1, .int p1)]) rfl (by rw [hL]; decide) ?_
        refine g_goto C dX11_markAt_31 (tgt := 4) (by decide) ?_
        exact g_sub [2, 3, 1, 0] rfl (ih (i + 1) _ (by omega) (by first | with_reducible rfl | (subst ha; first | with_reducible rfl | (simp only [sa_ap, si_ap, si_sa, sa_sa, sa_3, sa_4, sa_5, sa_6, sa_7, sa_8, md_at, up_us, up_up, xs_b, c_19]; done) | (simp [sa_ap, si_ap, si_sa, sa_sa, sa_3, sa_4, sa_5, sa_6, sa_7, sa_8, md_at, up_us, up_up, xs_b, c_19]; done))))
      · try simp only [sa_ap, si_ap, reduceIte, Nat.reduceEqDiff, up_us, lg_cmp_lt, lg_cmp_gt, lg_cmp_le, lg_cmp_ge] at c_19
        refine g_iload_n C dX11_markAt_22 3 rfl ?_
        refine g_goto C dX11_markAt_23 (tgt := 27) (by decide) ?_
        refine g_istore_n C dX11_markAt_27 (L' := [(2, .int (nI i)), (0, .ref (gad G 42)), (1, .int p1), (3, .int (nI i))]) rfl (by rw [hL]; decide) ?_
        refine g_iinc C dX11_markAt_28 3 rfl (v := nI (i + 1)) (nI_1 _) (L' := [(3, .int (nI (i + 1))), (2, .int (nI i)), (0, .ref (gad G 42)), (1, .int p1)]) rfl (by rw [hL]; decide) ?_
        refine g_goto C dX11_markAt_31 (tgt := 4) (by decide) ?_
        exact g_sub [2, 3, 1, 0] rfl (ih (i + 1) _ (by omega) (by first | with_reducible rfl | (subst ha; first | with_reducible rfl | (simp only [sa_ap, si_ap, si_sa, sa_sa, sa_3, sa_4, sa_5, sa_6, sa_7, sa_8, md_at, up_us, up_up, xs_b, c_19]; done) | (simp [sa_ap, si_ap, si_sa, sa_sa, sa_3, sa_4, sa_5, sa_6, sa_7, sa_8, md_at, up_us, up_up, xs_b, c_19]; done))))
  exact g_sub [2, 3, 1, 0] rfl (lp4 (z) 0 _ (by omega) (by first | with_reducible rfl | (first | with_reducible rfl | (simp only [sa_ap, si_ap, si_sa, sa_sa, sa_3, sa_4, sa_5, sa_6, sa_7, sa_8, md_at, up_us, up_up, xs_b]; done) | (simp [sa_ap, si_ap, si_sa, sa_sa, sa_3, sa_4, sa_5, sa_6, sa_7, sa_8, md_at, up_us, up_up, xs_b]; done))))

set_option maxHeartbeats 400000 in
set_option maxRecDepth 100000 in
/-- addMark.addMark -/
theorem c_X11_addMark (l : Launch) (D : va_G) (cy : Nat → ClassId) (A : Nat → Prop) (ad sad : Nat → Nat) (X M : XF) (K : KF) (p1 p2 p3 : Int32) (z : Nat) (hz : M 114 0 = nI z) (hzl : z ≤ 6) : Met l yX11_addMark (wsA yX11_addMark cX11_addMark 5 (some .int)) ({ frames := 1, cells := 0, slots := 0, locals := 25 }) (PcW D cy A ad sad X M K [.ref (ad 42), .int p1, .int p2, .int p3]) (QiW D cy A ad (fun r X1 M1 K1 => r = (if xs_mark (M 53) z (M 113 0) (M 102 0) p1 p2 p3 = 0 then nI z + 1 else 0) ∧ X1 = X ∧ M1 = (if xs_mark (M 53) z (M 113 0) (M 102 0) p1 p2 p3 = 0 then si (sa (sa (sa (si M 100 0) 53 (upd (mk_sh p1 z (M 53) (M 54) (M 55)).1.1 (mk_sh p1 z (M 53) (M 54) (M 55)).2 p1)) 54 (upd (mk_sh p1 z (M 53) (M 54) (M 55)).1.2.1 (mk_sh p1 z (M 53) (M 54) (M 55)).2 p2)) 55 (upd (mk_sh p1 z (M 53) (M 54) (M 55)).1.2.2 (mk_sh p1 z (M 53) (M 54) (M 55)).2 p3)) 114 (nI z + 1) else si M 100 (xs_mark (M 53) z (M 113 0) (M 102 0) p1 p2 p3)) ∧ K1 = K)) 0 0 A := by
  refine met_ofW [(0, .ref (ad 42)), (1, .int p1), (2, .int p2), (3, .int p3)] (by decide +kernel) (Nat.le_of_ble_eq_true rfl) rfl ?_
  intro G C hl hR hL hD hcy hA had hsa hr hQ
  subst hD hcy hA had hsa hl
  refine g_aload_n C dX11_addMark_0 0 rfl ?_
  refine g_iconst C dX11_addMark_1 (v := 0) (by decide) ?_
  refine pf_X11_thrown C tw1243 dX11_addMark_2 ?_
  refine g_aload_n C dX11_addMark_5 0 rfl ?_
  refine g_iload_n C dX11_addMark_6 1 rfl ?_
  refine g_i2l C dX11_addMark_7 ?_
  refine g_ldc2 C dX11_addMark_8 tw1433 ?_
  refine g_ldc2 C dX11_addMark_11 tw1434 ?_
  refine g_callSiW C dX11_addMark_14 (c_X11_in _ _ _ _ _ _ _ _ _ _ _ _) tw1406 tw1407 tw16 tw1408 rfl ⟨by decide +kernel, by decide +kernel, rfl⟩ ⟨rfl, rfl⟩ (by rw [hR]; decide) (Nat.le_of_ble_eq_true rfl) (by rw [hR]; decide) (fun r_1 X1 M1 K1 h_2 => ?_)
  obtain ⟨er_1, hX1, hM1, hK1⟩ := h_2
  subst X1 M1 K1
  try simp only [sa_ap, si_ap, reduceIte, Nat.reduceEqDiff] at er_1
  refine g_if_eq C dX11_addMark_17 (tgt := 41) (by decide) (fun c_17 => ?_) (fun c_17 => ?_)
  · try simp only [sa_ap, si_ap, reduceIte, Nat.reduceEqDiff, up_us, lg_cmp_lt, lg_cmp_gt, lg_cmp_le, lg_cmp_ge] at c_17
    refine g_iconst C dX11_addMark_41 (v := 1) (by decide) ?_
    refine g_goto C dX11_addMark_42 (tgt := 46) (by decide) ?_
    refine g_iconst C dX11_addMark_46 (v := 1) (by decide) ?_
    refine g_callViW C dX11_addMark_47 (c_X11_fails_1 _ _ _ _ _ _ _ _ _ _ (by rfl) (by decide)) tw1412 tw1414 tp14 tw16 tw1415 (rv_X11 C) rfl ⟨by decide +kernel, by decide +kernel, rfl⟩ ⟨rfl, rfl⟩ (by rw [hR]; decide) (Nat.le_of_ble_eq_true rfl) (by rw [hR]; decide) (fun r_3 X1 M1 K1 h_4 => ?_)
    obtain ⟨rfl, hX1, hM1, hK1⟩ := h_4
    subst X1 M1 K1
    refine g_if_ne C dX11_addMark_50 (tgt := 84) (by decide) (fun c_50 => ?_) (fun c_50 => absurd c_50 (by decide))
    refine g_iconst C dX11_addMark_84 (v := 0) (by decide) ?_
    refine g_iretW C hr hQ (Nat.le_refl _) (Nat.le_refl _) dX11_addMark_85 ?_
    exact ⟨(by first | with_reducible rfl | (subst er_1; first | with_reducible rfl | (simp only [sa_ap, si_ap, si_sa, sa_sa, sa_3, sa_4, sa_5, sa_6, sa_7, sa_8, xs_mark, xs_go, mk_sh, up_us, up_up, xs_b, c_17]; done) | (simp [sa_ap, si_ap, si_sa, sa_sa, sa_3, sa_4, sa_5, sa_6, sa_7, sa_8, xs_mark, xs_go, mk_sh, up_us, up_up, xs_b, c_17]; done))), rfl, (by first | with_reducible rfl | (subst er_1; first | with_reducible rfl | (simp only [sa_ap, si_ap, si_sa, sa_sa, sa_3, sa_4, sa_5, sa_6, sa_7, sa_8, xs_mark, xs_go, mk_sh, up_us, up_up, xs_b, c_17]; done) | (simp [sa_ap, si_ap, si_sa, sa_sa, sa_3, sa_4, sa_5, sa_6, sa_7, sa_8, xs_mark, xs_go, mk_sh, up_us, up_up, xs_b, c_17]; done))), rfl⟩
  · try simp only [sa_ap, si_ap, reduceIte, Nat.reduceEqDiff, up_us, lg_cmp_lt, lg_cmp_gt, lg_cmp_le, lg_cmp_ge] at c_17
    refine g_iload_n C dX11_addMark_20 2 rfl ?_
    refine g_i2l C dX11_addMark_21 ?_
    refine g_lconst C dX11_addMark_22 (v := 0) (by decide) ?_
    refine g_ldc2 C dX11_addMark_23 tw1435 ?_
    refine g_callSiW C dX11_addMark_26 (c_X11_in _ _ _ _ _ _ _ _ _ _ _ _) tw1406 tw1407 tw16 tw1408 rfl ⟨by decide +kernel, by decide +kernel, rfl⟩ ⟨rfl, rfl⟩ (by rw [hR]; decide) (Nat.le_of_ble_eq_true rfl) (by rw [hR]; decide) (fun r_5 X1 M1 K1 h_6 => ?_)
    obtain ⟨er_5, hX1, hM1, hK1⟩ := h_6
    subst X1 M1 K1
    try simp only [sa_ap, si_ap, reduceIte, Nat.reduceEqDiff] at er_5
    refine g_if_eq C dX11_addMark_29 (tgt := 41) (by decide) (fun c_29 => ?_) (fun c_29 => ?_)
    · try simp only [sa_ap, si_ap, reduceIte, Nat.reduceEqDiff, up_us, lg_cmp_lt, lg_cmp_gt, lg_cmp_le, lg_cmp_ge] at c_29
      refine g_iconst C dX11_addMark_41 (v := 1) (by decide) ?_
      refine g_goto C dX11_addMark_42 (tgt := 46) (by decide) ?_
      refine g_iconst C dX11_addMark_46 (v := 1) (by decide) ?_
      refine g_callViW C dX11_addMark_47 (c_X11_fails_1 _ _ _ _ _ _ _ _ _ _ (by rfl) (by decide)) tw1412 tw1414 tp14 tw16 tw1415 (rv_X11 C) rfl ⟨by decide +kernel, by decide +kernel, rfl⟩ ⟨rfl, rfl⟩ (by rw [hR]; decide) (Nat.le_of_ble_eq_true rfl) (by rw [hR]; decide) (fun r_7 X1 M1 K1 h_8 => ?_)
      obtain ⟨rfl, hX1, hM1, hK1⟩ := h_8
      subst X1 M1 K1
      refine g_if_ne C dX11_addMark_50 (tgt := 84) (by decide) (fun c_50 => ?_) (fun c_50 => absurd c_50 (by decide))
      refine g_iconst C dX11_addMark_84 (v := 0) (by decide) ?_
      refine g_iretW C hr hQ (Nat.le_refl _) (Nat.le_refl _) dX11_addMark_85 ?_
      exact ⟨(by first | with_reducible rfl | (subst er_1 er_5; first | with_reducible rfl | (simp only [sa_ap, si_ap, si_sa, sa_sa, sa_3, sa_4, sa_5, sa_6, sa_7, sa_8, xs_mark, xs_go, mk_sh, up_us, up_up, xs_b, c_17, c_29]; done) | (simp [sa_ap, si_ap, si_sa, sa_sa, sa_3, sa_4, sa_5, sa_6, sa_7, sa_8, xs_mark, xs_go, mk_sh, up_us, up_up, xs_b, c_17, c_29]; done))), rfl, (by first | with_reducible rfl | (subst er_1 er_5; first | with_reducible rfl | (simp only [sa_ap, si_ap, si_sa, sa_sa, sa_3, sa_4, sa_5, sa_6, sa_7, sa_8, xs_mark, xs_go, mk_sh, up_us, up_up, xs_b, c_17, c_29]; done) | (simp [sa_ap, si_ap, si_sa, sa_sa, sa_3, sa_4, sa_5, sa_6, sa_7, sa_8, xs_mark, xs_go, mk_sh, up_us, up_up, xs_b, c_17, c_29]; done))), rfl⟩
    · try simp only [sa_ap, si_ap, reduceIte, Nat.reduceEqDiff, up_us, lg_cmp_lt, lg_cmp_gt, lg_cmp_le, lg_cmp_ge] at c_29
      refine g_aload_n C dX11_addMark_32 0 rfl ?_
      refine g_iload_n C dX11_addMark_33 1 rfl ?_
      refine g_callViW C dX11_addMark_34 (c_X11_markAt _ _ _ _ _ _ _ (si M 100 0) _ p1 z hz hzl) tw1461 tw1463 tp18 tw16 tw1464 (rv_X11 C) rfl ⟨by decide +kernel, by decide +kernel, rfl⟩ ⟨rfl, rfl⟩ (by rw [hR]; decide) (Nat.le_of_ble_eq_true rfl) (by rw [hR]; decide) (fun r_9 X1 M1 K1 h_10 => ?_)
      obtain ⟨er_9, hX1, hM1, hK1⟩ := h_10
      subst X1 M1 K1
      try simp only [sa_ap, si_ap, reduceIte, Nat.reduceEqDiff] at er_9
      refine g_iconst C dX11_addMark_37 (v := (-1)) (by decide) ?_
      refine g_icmp_eq C dX11_addMark_38 (tgt := 45) (by decide) (fun c_38 => ?_) (fun c_38 => ?_)
      · try simp only [sa_ap, si_ap, reduceIte, Nat.reduceEqDiff, up_us, lg_cmp_lt, lg_cmp_gt, lg_cmp_le, lg_cmp_ge] at c_38
        refine g_iconst C dX11_addMark_45 (v := 0) (by decide) ?_
        refine g_iconst C dX11_addMark_46 (v := 1) (by decide) ?_
        refine g_callViW C dX11_addMark_47 (c_X11_fails_0 _ _ _ _ _ _ _ _ _ _ (by rfl)) tw1412 tw1414 tp14 tw16 tw1415 (rv_X11 C) rfl ⟨by decide +kernel, by decide +kernel, rfl⟩ ⟨rfl, rfl⟩ (by rw [hR]; decide) (Nat.le_of_ble_eq_true rfl) (by rw [hR]; decide) (fun r_11 X1 M1 K1 h_12 => ?_)
        obtain ⟨rfl, hX1, hM1, hK1⟩ := h_12
        subst X1 M1 K1
        refine g_if_ne C dX11_addMark_50 (tgt := 84) (by decide) (fun c_50 => absurd c_50 (by decide)) (fun c_50 => ?_)
        refine g_aload_n C dX11_addMark_53 0 rfl ?_
        refine g_iload_n C dX11_addMark_54 3 rfl ?_
        refine g_i2l C dX11_addMark_55 ?_
        refine g_lconst C dX11_addMark_56 (v := 0) (by decide) ?_
        refine g_iconst C dX11_addMark_57 (v := 1) (by decide) ?_
        refine g_aload_n C dX11_addMark_58 0 rfl ?_
        refine gf_X11_steps C tw1263 dX11_addMark_59 ?_
        refine g_ishl C dX11_addMark_62 ?_
        refine g_iconst C dX11_addMark_63 (v := 1) (by decide) ?_
        refine g_isub C dX11_addMark_64 ?_
        refine g_i2l C dX11_addMark_65 ?_
        refine g_callSiW C dX11_addMark_66 (c_X11_in _ _ _ _ _ _ _ _ _ _ _ _) tw1406 tw1407 tw16 tw1408 rfl ⟨by decide +kernel, by decide +kernel, rfl⟩ ⟨rfl, rfl⟩ (by rw [hR]; decide) (Nat.le_of_ble_eq_true rfl) (by rw [hR]; decide) (fun r_13 X1 M1 K1 h_14 => ?_)
        obtain ⟨er_13, hX1, hM1, hK1⟩ := h_14
        subst X1 M1 K1
        try simp only [sa_ap, si_ap, reduceIte, Nat.reduceEqDiff] at er_13
        refine g_if_ne C dX11_addMark_69 (tgt := 76) (by decide) (fun c_69 => ?_) (fun c_69 => ?_)
        · try simp only [sa_ap, si_ap, reduceIte, Nat.reduceEqDiff, up_us, lg_cmp_lt, lg_cmp_gt, lg_cmp_le, lg_cmp_ge] at c_69
          refine g_iconst C dX11_addMark_76 (v := 0) (by decide) ?_
          refine g_iconst C dX11_addMark_77 (v := 2) (by decide) ?_
          refine g_callViW C dX11_addMark_78 (c_X11_fails_0 _ _ _ _ _ _ _ _ _ _ (by rfl)) tw1412 tw1414 tp14 tw16 tw1415 (rv_X11 C) rfl ⟨by decide +kernel, by decide +kernel, rfl⟩ ⟨rfl, rfl⟩ (by rw [hR]; decide) (Nat.le_of_ble_eq_true rfl) (by rw [hR]; decide) (fun r_15 X1 M1 K1 h_16 => ?_)
          obtain ⟨rfl, hX1, hM1, hK1⟩ := h_16
          subst X1 M1 K1
          refine g_if_eq C dX11_addMark_81 (tgt := 86) (by decide) (fun c_81 => ?_) (fun c_81 => absurd (by decide) c_81)
          refine g_aload_n C dX11_addMark_86 0 rfl ?_
          refine g_aload_n C dX11_addMark_87 0 rfl ?_
          refine gf_X11_marks C tw1269 dX11_addMark_88 ?_
          refine g_topi hz ?_
          refine g_bipush C dX11_addMark_91 (v := 6) (by decide) ?_
          refine g_icmp_eq C dX11_addMark_93 (tgt := 110) (by decide) (fun c_93 => ?_) (fun c_93 => ?_)
          · try simp only [sa_ap, si_ap, reduceIte, Nat.reduceEqDiff, up_us, lg_cmp_lt, lg_cmp_gt, lg_cmp_le, lg_cmp_ge] at c_93
            refine g_iconst C dX11_addMark_110 (v := 1) (by decide) ?_
            refine g_goto C dX11_addMark_111 (tgt := 115) (by decide) ?_
            refine g_iconst C dX11_addMark_115 (v := 3) (by decide) ?_
            refine g_callViW C dX11_addMark_116 (c_X11_fails_1 _ _ _ _ _ _ _ _ _ _ (by rfl) (by decide)) tw1412 tw1414 tp14 tw16 tw1415 (rv_X11 C) rfl ⟨by decide +kernel, by decide +kernel, rfl⟩ ⟨rfl, rfl⟩ (by rw [hR]; decide) (Nat.le_of_ble_eq_true rfl) (by rw [hR]; decide) (fun r_17 X1 M1 K1 h_18 => ?_)
            obtain ⟨rfl, hX1, hM1, hK1⟩ := h_18
            subst X1 M1 K1
            refine g_if_eq C dX11_addMark_119 (tgt := 124) (by decide) (fun c_119 => absurd c_119 (by decide)) (fun c_119 => ?_)
            refine g_iconst C dX11_addMark_122 (v := 0) (by decide) ?_
            refine g_iretW C hr hQ (Nat.le_refl _) (Nat.le_refl _) dX11_addMark_123 ?_
            exact ⟨(by first | with_reducible rfl | (subst er_1 er_5 er_9 er_13; first | with_reducible rfl | (simp only [sa_ap, si_ap, si_sa, sa_sa, sa_3, sa_4, sa_5, sa_6, sa_7, sa_8, xs_mark, xs_go, mk_sh, up_us, up_up, xs_b, c_17, c_29, c_38, c_69, c_93]; done) | (simp [sa_ap, si_ap, si_sa, sa_sa, sa_3, sa_4, sa_5, sa_6, sa_7, sa_8, xs_mark, xs_go, mk_sh, up_us, up_up, xs_b, c_17, c_29, c_38, c_69, c_93]; done))), rfl, (by first | with_reducible rfl | (subst er_1 er_5 er_9 er_13; first | with_reducible rfl | (simp only [sa_ap, si_ap, si_sa, sa_sa, sa_3, sa_4, sa_5, sa_6, sa_7, sa_8, xs_mark, xs_go, mk_sh, up_us, up_up, xs_b, c_17, c_29, c_38, c_69, c_93]; done) | (simp [sa_ap, si_ap, si_sa, sa_sa, sa_3, sa_4, sa_5, sa_6, sa_7, sa_8, xs_mark, xs_go, mk_sh, up_us, up_up, xs_b, c_17, c_29, c_38, c_69, c_93]; done))), rfl⟩
          · try simp only [sa_ap, si_ap, reduceIte, Nat.reduceEqDiff, up_us, lg_cmp_lt, lg_cmp_gt, lg_cmp_le, lg_cmp_ge] at c_93
            have hlt : z < 6 := Nat.lt_of_le_of_ne hzl (fun q => c_93 (by rw [q]; rfl))
            refine g_aload_n C dX11_addMark_96 0 rfl ?_
            refine g_callViW C dX11_addMark_97 (c_X11_isCounting _ _ _ _ _ _ _ _ _ ) tw1436 tw1438 tp15 tw16 tw1439 (rv_X11 C) rfl ⟨by decide +kernel, by decide +kernel, rfl⟩ ⟨rfl, rfl⟩ (by rw [hR]; decide) (Nat.le_of_ble_eq_true rfl) (by rw [hR]; decide) (fun r_19 X1 M1 K1 h_20 => ?_)
            obtain ⟨er_19, hX1, hM1, hK1⟩ := h_20
            subst X1 M1 K1
            try simp only [sa_ap, si_ap, reduceIte, Nat.reduceEqDiff] at er_19
            refine g_if_ne C dX11_addMark_100 (tgt := 110) (by decide) (fun c_100 => ?_) (fun c_100 => ?_)
            · try simp only [sa_ap, si_ap, reduceIte, Nat.reduceEqDiff, up_us, lg_cmp_lt, lg_cmp_gt, lg_cmp_le, lg_cmp_ge] at c_100
              refine g_iconst C dX11_addMark_110 (v := 1) (by decide) ?_
              refine g_goto C dX11_addMark_111 (tgt := 115) (by decide) ?_
              refine g_iconst C dX11_addMark_115 (v := 3) (by decide) ?_
              refine g_callViW C dX11_addMark_116 (c_X11_fails_1 _ _ _ _ _ _ _ _ _ _ (by rfl) (by decide)) tw1412 tw1414 tp14 tw16 tw1415 (rv_X11 C) rfl ⟨by decide +kernel, by decide +kernel, rfl⟩ ⟨rfl, rfl⟩ (by rw [hR]; decide) (Nat.le_of_ble_eq_true rfl) (by rw [hR]; decide) (fun r_21 X1 M1 K1 h_22 => ?_)
              obtain ⟨rfl, hX1, hM1, hK1⟩ := h_22
              subst X1 M1 K1
              refine g_if_eq C dX11_addMark_119 (tgt := 124) (by decide) (fun c_119 => absurd c_119 (by decide)) (fun c_119 => ?_)
              refine g_iconst C dX11_addMark_122 (v := 0) (by decide) ?_
              refine g_iretW C hr hQ (Nat.le_refl _) (Nat.le_refl _) dX11_addMark_123 ?_
              exact ⟨(by first | with_reducible rfl | (subst er_1 er_5 er_9 er_13 er_19; first | with_reducible rfl | (simp only [sa_ap, si_ap, si_sa, sa_sa, sa_3, sa_4, sa_5, sa_6, sa_7, sa_8, xs_mark, xs_go, mk_sh, up_us, up_up, xs_b, c_17, c_29, c_38, c_69, c_93, c_100]; done) | (simp [sa_ap, si_ap, si_sa, sa_sa, sa_3, sa_4, sa_5, sa_6, sa_7, sa_8, xs_mark, xs_go, mk_sh, up_us, up_up, xs_b, c_17, c_29, c_38, c_69, c_93, c_100]; done))), rfl, (by first | with_reducible rfl | (subst er_1 er_5 er_9 er_13 er_19; first | with_reducible rfl | (simp only [sa_ap, si_ap, si_sa, sa_sa, sa_3, sa_4, sa_5, sa_6, sa_7, sa_8, xs_mark, xs_go, mk_sh, up_us, up_up, xs_b, c_17, c_29, c_38, c_69, c_93, c_100]; done) | (simp [sa_ap, si_ap, si_sa, sa_sa, sa_3, sa_4, sa_5, sa_6, sa_7, sa_8, xs_mark, xs_go, mk_sh, up_us, up_up, xs_b, c_17, c_29, c_38, c_69, c_93, c_100]; done))), rfl⟩
            · try simp only [sa_ap, si_ap, reduceIte, Nat.reduceEqDiff, up_us, lg_cmp_lt, lg_cmp_gt, lg_cmp_le, lg_cmp_ge] at c_100
              refine g_aload_n C dX11_addMark_103 0 rfl ?_
              refine g_callViW C dX11_addMark_104 (c_X11_hasLeft _ _ _ _ _ _ _ _ _ ) tw1440 tw1442 tp16 tw16 tw1443 (rv_X11 C) rfl ⟨by decide +kernel, by decide +kernel, rfl⟩ ⟨rfl, rfl⟩ (by rw [hR]; decide) (Nat.le_of_ble_eq_true rfl) (by rw [hR]; decide) (fun r_23 X1 M1 K1 h_24 => ?_)
              obtain ⟨er_23, hX1, hM1, hK1⟩ := h_24
              subst X1 M1 K1
              try simp only [sa_ap, si_ap, reduceIte, Nat.reduceEqDiff] at er_23
              refine g_if_eq C dX11_addMark_107 (tgt := 114) (by decide) (fun c_107 => ?_) (fun c_107 => ?_)
              · try simp only [sa_ap, si_ap, reduceIte, Nat.reduceEqDiff, up_us, lg_cmp_lt, lg_cmp_gt, lg_cmp_le, lg_cmp_ge] at c_107
                refine g_iconst C dX11_addMark_114 (v := 0) (by decide) ?_
                refine g_iconst C dX11_addMark_115 (v := 3) (by decide) ?_
                refine g_callViW C dX11_addMark_116 (c_X11_fails_0 _ _ _ _ _ _ _ _ _ _ (by rfl)) tw1412 tw1414 tp14 tw16 tw1415 (rv_X11 C) rfl ⟨by decide +kernel, by decide +kernel, rfl⟩ ⟨rfl, rfl⟩ (by rw [hR]; decide) (Nat.le_of_ble_eq_true rfl) (by rw [hR]; decide) (fun r_25 X1 M1 K1 h_26 => ?_)
                obtain ⟨rfl, hX1, hM1, hK1⟩ := h_26
                subst X1 M1 K1
                refine g_if_eq C dX11_addMark_119 (tgt := 124) (by decide) (fun c_119 => ?_) (fun c_119 => absurd (by decide) c_119)
                refine g_aload_n C dX11_addMark_124 0 rfl ?_
                refine gf_X11_marks C tw1269 dX11_addMark_125 ?_
                refine g_topi hz ?_
                refine g_istore C dX11_addMark_128 (L' := [(4, .int (nI z)), (0, .ref (gad G 42)), (1, .int p1), (2, .int p2), (3, .int p3)]) rfl (by rw [hL]; decide) ?_
                have lp130 : ∀ (n i : Nat) (c : Nat → Int32) (s : Nat → Int32) (t : Nat → Int32) (hi : i + n = z) (hf : mk_sh p1 z (M 53) (M 54) (M 55) = mk_sh p1 n c s t), GH G (WX G X (sa (sa (sa (si M 100 0) 53 c) 54 s) 55 t) K) [(0, .ref (gad G 42)), (1, .int p1), (2, .int p2), (3, .int p3), (4, .int (nI n))] 0 0 130 [] := by
                  intro n
                  induction n with
                  | zero =>
                    intro i c s t hi hf
                    refine g_iload C dX11_addMark_130 4 rfl ?_
                    refine g_if_le C dX11_addMark_132 (tgt := 202) (by decide) (fun c_132 => ?_) (fun c_132 => absurd (by decide) c_132)
                    refine g_aload_n C dX11_addMark_202 0 rfl ?_
                    refine gf_X11_markCount C tw1270 dX11_addMark_203 ?_
                    refine g_iload C dX11_addMark_206 4 rfl ?_
                    refine g_iload_n C dX11_addMark_208 1 rfl ?_
                    refine as_53 C (by omega) dX11_addMark_209 ?_
                    refine g_aload_n C dX11_addMark_210 0 rfl ?_
                    refine gf_X11_markSeconds C tw1271 dX11_addMark_211 ?_
                    refine g_iload C dX11_addMark_214 4 rfl ?_
                    refine g_iload_n C dX11_addMark_216 2 rfl ?_
                    refine as_54 C (by omega) dX11_addMark_217 ?_
                    refine g_aload_n C dX11_addMark_218 0 rfl ?_
                    refine gf_X11_markSteps C tw1272 dX11_addMark_219 ?_
                    refine g_iload C dX11_addMark_222 4 rfl ?_
                    refine g_iload_n C dX11_addMark_224 3 rfl ?_
                    refine as_55 C (by omega) dX11_addMark_225 ?_
                    refine g_aload_n C dX11_addMark_226 0 rfl ?_
                    refine g_dup C dX11_addMark_227 rfl ?_
                    refine gf_X11_marks C tw1269 dX11_addMark_228 ?_
                    refine g_topi hz ?_
                    refine g_iconst C dX11_addMark_231 (v := 1) (by decide) ?_
                    refine g_iadd C dX11_addMark_232 ?_
                    refine pf_X11_marks C tw1269 dX11_addMark_233 ?_
                    refine g_aload_n C dX11_addMark_236 0 rfl ?_
                    refine gf_X11_marks C tw1269 dX11_addMark_237 ?_
                    refine g_topi rfl ?_
                    refine g_iretW C hr hQ (Nat.le_refl _) (Nat.le_refl _) dX11_addMark_240 ?_
                    exact ⟨(by first | with_reducible rfl | (subst er_1 er_5 er_9 er_13 er_19 er_23; first | with_reducible rfl | (simp only [sa_ap, si_ap, si_sa, sa_sa, sa_3, sa_4, sa_5, sa_6, sa_7, sa_8, xs_mark, xs_go, mk_sh, up_us, up_up, xs_b, c_17, c_29, c_38, c_69, c_93, c_100, c_107]; done) | (simp [sa_ap, si_ap, si_sa, sa_sa, sa_3, sa_4, sa_5, sa_6, sa_7, sa_8, xs_mark, xs_go, mk_sh, up_us, up_up, xs_b, c_17, c_29, c_38, c_69, c_93, c_100, c_107]; done))), rfl, by rw [hf]; first | with_reducible rfl | (subst er_1 er_5 er_9 er_13 er_19 er_23; first | with_reducible rfl | (simp only [sa_ap, si_ap, si_sa, sa_sa, sa_3, sa_4, sa_5, sa_6, sa_7, sa_8, xs_mark, xs_go, mk_sh, up_us, up_up, xs_b, c_17, c_29, c_38, c_69, c_93, c_100, c_107]; done) | (simp [sa_ap, si_ap, si_sa, sa_sa, sa_3, sa_4, sa_5, sa_6, sa_7, sa_8, xs_mark, xs_go, mk_sh, up_us, up_up, xs_b, c_17, c_29, c_38, c_69, c_93, c_100, c_107]; done)), rfl⟩
                  | succ n ih =>
                    intro i c s t hi hf
                    refine g_iload C dX11_addMark_130 4 rfl ?_
                    refine g_if_le C dX11_addMark_132 (tgt := 202) (by decide) (fun c_132 => absurd c_132 (nI_nle (n := n + 1) (by omega) (by omega))) (fun c_132 => ?_)
                    refine g_aload_n C dX11_addMark_135 0 rfl ?_
                    refine gf_X11_markCount C tw1270 dX11_addMark_136 ?_
                    refine g_iload C dX11_addMark_139 4 rfl ?_
                    refine g_iconst C dX11_addMark_141 (v := 1) (by decide) ?_
                    refine g_isub C dX11_addMark_142 ?_
                    refine g_topi (nI_pred n) ?_
                    refine al_53 C (by omega) dX11_addMark_143 ?_
                    refine g_iload_n C dX11_addMark_144 1 rfl ?_
                    refine g_icmp_le C dX11_addMark_145 (tgt := 202) (by decide) (fun c_145 => ?_) (fun c_145 => ?_)
                    · try simp only [sa_ap, si_ap, reduceIte, Nat.reduceEqDiff, up_us, lg_cmp_lt, lg_cmp_gt, lg_cmp_le, lg_cmp_ge] at c_145
                      refine g_aload_n C dX11_addMark_202 0 rfl ?_
                      refine gf_X11_markCount C tw1270 dX11_addMark_203 ?_
                      refine g_iload C dX11_addMark_206 4 rfl ?_
                      refine g_iload_n C dX11_addMark_208 1 rfl ?_
                      refine as_53 C (by omega) dX11_addMark_209 ?_
                      refine g_aload_n C dX11_addMark_210 0 rfl ?_
                      refine gf_X11_markSeconds C tw1271 dX11_addMark_211 ?_
                      refine g_iload C dX11_addMark_214 4 rfl ?_
                      refine g_iload_n C dX11_addMark_216 2 rfl ?_
                      refine as_54 C (by omega) dX11_addMark_217 ?_
                      refine g_aload_n C dX11_addMark_218 0 rfl ?_
                      refine gf_X11_markSteps C tw1272 dX11_addMark_219 ?_
                      refine g_iload C dX11_addMark_222 4 rfl ?_
                      refine g_iload_n C dX11_addMark_224 3 rfl ?_
                      refine as_55 C (by omega) dX11_addMark_225 ?_
                      refine g_aload_n C dX11_addMark_226 0 rfl ?_
                      refine g_dup C dX11_addMark_227 rfl ?_
                      refine gf_X11_marks C tw1269 dX11_addMark_228 ?_
                      refine g_topi hz ?_
                      refine g_iconst C dX11_addMark_231 (v := 1) (by decide) ?_
                      refine g_iadd C dX11_addMark_232 ?_
                      refine pf_X11_marks C tw1269 dX11_addMark_233 ?_
                      refine g_aload_n C dX11_addMark_236 0 rfl ?_
                      refine gf_X11_marks C tw1269 dX11_addMark_237 ?_
                      refine g_topi rfl ?_
                      refine g_iretW C hr hQ (Nat.le_refl _) (Nat.le_refl _) dX11_addMark_240 ?_
                      exact ⟨(by first | with_reducible rfl | (subst er_1 er_5 er_9 er_13 er_19 er_23; first | with_reducible rfl | (simp only [sa_ap, si_ap, si_sa, sa_sa, sa_3, sa_4, sa_5, sa_6, sa_7, sa_8, xs_mark, xs_go, mk_sh, up_us, up_up, xs_b, c_17, c_29, c_38, c_69, c_93, c_100, c_107, c_145]; done) | (simp [sa_ap, si_ap, si_sa, sa_sa, sa_3, sa_4, sa_5, sa_6, sa_7, sa_8, xs_mark, xs_go, mk_sh, up_us, up_up, xs_b, c_17, c_29, c_38, c_69, c_93, c_100, c_107, c_145]; done))), rfl, by rw [hf]; first | with_reducible rfl | (subst er_1 er_5 er_9 er_13 er_19 er_23; first | with_reducible rfl | (simp only [sa_ap, si_ap, si_sa, sa_sa, sa_3, sa_4, sa_5, sa_6, sa_7, sa_8, xs_mark, xs_go, mk_sh, up_us, up_up, xs_b, c_17, c_29, c_38, c_69, c_93, c_100, c_107, c_145]; done) | (simp [sa_ap, si_ap, si_sa, sa_sa, sa_3, sa_4, sa_5, sa_6, sa_7, sa_8, xs_mark, xs_go, mk_sh, up_us, up_up, xs_b, c_17, c_29, c_38, c_69, c_93, c_100, c_107, c_145]; done)), rfl⟩
                    · try simp only [sa_ap, si_ap, reduceIte, Nat.reduceEqDiff, up_us, lg_cmp_lt, lg_cmp_gt, lg_cmp_le, lg_cmp_ge] at c_145
                      refine g_aload_n C dX11_addMark_148 0 rfl ?_
                      refine gf_X11_markCount C tw1270 dX11_addMark_149 ?_
                      refine g_iload C dX11_addMark_152 4 rfl ?_
                      refine g_aload_n C dX11_addMark_154 0 rfl ?_
                      refine gf_X11_markCount C tw1270 dX11_addMark_155 ?_
                      refine g_iload C dX11_addMark_158 4 rfl ?_
                      refine g_iconst C dX11_addMark_160 (v := 1) (by decide) ?_
                      refine g_isub C dX11_addMark_161 ?_
                      refine g_topi (nI_pred n) ?_
                      refine al_53 C (by omega) dX11_addMark_162 ?_
                      refine as_53 C (by omega) dX11_addMark_163 ?_
                      refine g_aload_n C dX11_addMark_164 0 rfl ?_
                      refine gf_X11_markSeconds C tw1271 dX11_addMark_165 ?_
                      refine g_iload C dX11_addMark_168 4 rfl ?_
                      refine g_aload_n C dX11_addMark_170 0 rfl ?_
                      refine gf_X11_markSeconds C tw1271 dX11_addMark_171 ?_
                      refine g_iload C dX11_addMark_174 4 rfl ?_
                      refine g_iconst C dX11_addMark_176 (v := 1) (by decide) ?_
                      refine g_isub C dX11_addMark_177 ?_
                      refine g_topi (nI_pred n) ?_
                      refine al_54 C (by omega) dX11_addMark_178 ?_
                      refine as_54 C (by omega) dX11_addMark_179 ?_
                      refine g_aload_n C dX11_addMark_180 0 rfl ?_
                      refine gf_X11_markSteps C tw1272 dX11_addMark_181 ?_
                      refine g_iload C dX11_addMark_184 4 rfl ?_
                      refine g_aload_n C dX11_addMark_186 0 rfl ?_
                      refine gf_X11_markSteps C tw1272 dX11_addMark_187 ?_
                      refine g_iload C dX11_addMark_190 4 rfl ?_
                      refine g_iconst C dX11_addMark_192 (v := 1) (by decide) ?_
                      refine g_isub C dX11_addMark_193 ?_
                      refine g_topi (nI_pred n) ?_
                      refine al_55 C (by omega) dX11_addMark_194 ?_
                      refine as_55 C (by omega) dX11_addMark_195 ?_
                      refine g_iinc C dX11_addMark_196 4 rfl (v := nI n) (pk_m1 n) (L' := [(4, .int (nI n)), (0, .ref (gad G 42)), (1, .int p1), (2, .int p2), (3, .int p3)]) rfl (by rw [hL]; decide) ?_
                      refine g_goto C dX11_addMark_199 (tgt := 130) (by decide) ?_
                      exact g_sub [1, 2, 3, 4, 0] rfl (g_X (by first | with_reducible rfl | (subst er_1 er_5 er_9 er_13 er_19 er_23; first | with_reducible rfl | (simp only [sa_ap, si_ap, si_sa, sa_sa, sa_3, sa_4, sa_5, sa_6, sa_7, sa_8, xs_mark, xs_go, mk_sh, up_us, up_up, xs_b, c_17, c_29, c_38, c_69, c_93, c_100, c_107, c_145]; done) | (simp [sa_ap, si_ap, si_sa, sa_sa, sa_3, sa_4, sa_5, sa_6, sa_7, sa_8, xs_mark, xs_go, mk_sh, up_us, up_up, xs_b, c_17, c_29, c_38, c_69, c_93, c_100, c_107, c_145]; done))) (g_M (by first | with_reducible rfl | (subst er_1 er_5 er_9 er_13 er_19 er_23; first | with_reducible rfl | (simp only [sa_ap, si_ap, si_sa, sa_sa, sa_3, sa_4, sa_5, sa_6, sa_7, sa_8, xs_mark, xs_go, mk_sh, up_us, up_up, xs_b, c_17, c_29, c_38, c_69, c_93, c_100, c_107, c_145]; done) | (simp [sa_ap, si_ap, si_sa, sa_sa, sa_3, sa_4, sa_5, sa_6, sa_7, sa_8, xs_mark, xs_go, mk_sh, up_us, up_up, xs_b, c_17, c_29, c_38, c_69, c_93, c_100, c_107, c_145]; done))) (ih (i + 1) (upd c (n + 1) (c n)) (upd s (n + 1) (s n)) (upd t (n + 1) (t n)) (by omega) (by rw [hf]; first | with_reducible rfl | (subst er_1 er_5 er_9 er_13 er_19 er_23; first | with_reducible rfl | (simp only [sa_ap, si_ap, si_sa, sa_sa, sa_3, sa_4, sa_5, sa_6, sa_7, sa_8, xs_mark, xs_go, mk_sh, up_us, up_up, xs_b, c_17, c_29, c_38, c_69, c_93, c_100, c_107, c_145]; done) | (simp [sa_ap, si_ap, si_sa, sa_sa, sa_3, sa_4, sa_5, sa_6, sa_7, sa_8, xs_mark, xs_go, mk_sh, up_us, up_up, xs_b, c_17, c_29, c_38, c_69, c_93, c_100, c_107, c_145]; done))))))
                exact g_sub [1, 2, 3, 4, 0] rfl (g_X rfl (g_M (by show _ = sa (sa (sa (si M 100 0) 53 ((si M 100 0) 53)) 54 ((si M 100 0) 54)) 55 ((si M 100 0) 55); rw [sa_self, sa_self, sa_self]) (lp130 (z) 0 (M 53) (M 54) (M 55) (by omega) rfl)))
              · try simp only [sa_ap, si_ap, reduceIte, Nat.reduceEqDiff, up_us, lg_cmp_lt, lg_cmp_gt, lg_cmp_le, lg_cmp_ge] at c_107
                refine g_iconst C dX11_addMark_110 (v := 1) (by decide) ?_
                refine g_goto C dX11_addMark_111 (tgt := 115) (by decide) ?_
                refine g_iconst C dX11_addMark_115 (v := 3) (by decide) ?_
                refine g_callViW C dX11_addMark_116 (c_X11_fails_1 _ _ _ _ _ _ _ _ _ _ (by rfl) (by decide)) tw1412 tw1414 tp14 tw16 tw1415 (rv_X11 C) rfl ⟨by decide +kernel, by decide +kernel, rfl⟩ ⟨rfl, rfl⟩ (by rw [hR]; decide) (Nat.le_of_ble_eq_true rfl) (by rw [hR]; decide) (fun r_27 X1 M1 K1 h_28 => ?_)
                obtain ⟨rfl, hX1, hM1, hK1⟩ := h_28
                subst X1 M1 K1
                refine g_if_eq C dX11_addMark_119 (tgt := 124) (by decide) (fun c_119 => absurd c_119 (by decide)) (fun c_119 => ?_)
                refine g_iconst C dX11_addMark_122 (v := 0) (by decide) ?_
                refine g_iretW C hr hQ (Nat.le_refl _) (Nat.le_refl _) dX11_addMark_123 ?_
                exact ⟨(by first | with_reducible rfl | (subst er_1 er_5 er_9 er_13 er_19 er_23; first | with_reducible rfl | (simp only [sa_ap, si_ap, si_sa, sa_sa, sa_3, sa_4, sa_5, sa_6, sa_7, sa_8, xs_mark, xs_go, mk_sh, up_us, up_up, xs_b, c_17, c_29, c_38, c_69, c_93, c_100, c_107]; done) | (simp [sa_ap, si_ap, si_sa, sa_sa, sa_3, sa_4, sa_5, sa_6, sa_7, sa_8, xs_mark, xs_go, mk_sh, up_us, up_up, xs_b, c_17, c_29, c_38, c_69, c_93, c_100, c_107]; done))), rfl, (by first | with_reducible rfl | (subst er_1 er_5 er_9 er_13 er_19 er_23; first | with_reducible rfl | (simp only [sa_ap, si_ap, si_sa, sa_sa, sa_3, sa_4, sa_5, sa_6, sa_7, sa_8, xs_mark, xs_go, mk_sh, up_us, up_up, xs_b, c_17, c_29, c_38, c_69, c_93, c_100, c_107]; done) | (simp [sa_ap, si_ap, si_sa, sa_sa, sa_3, sa_4, sa_5, sa_6, sa_7, sa_8, xs_mark, xs_go, mk_sh, up_us, up_up, xs_b, c_17, c_29, c_38, c_69, c_93, c_100, c_107]; done))), rfl⟩
        · try simp only [sa_ap, si_ap, reduceIte, Nat.reduceEqDiff, up_us, lg_cmp_lt, lg_cmp_gt, lg_cmp_le, lg_cmp_ge] at c_69
          refine g_iconst C dX11_addMark_72 (v := 1) (by decide) ?_
          refine g_goto C dX11_addMark_73 (tgt := 77) (by decide) ?_
          refine g_iconst C dX11_addMark_77 (v := 2) (by decide) ?_
          refine g_callViW C dX11_addMark_78 (c_X11_fails_1 _ _ _ _ _ _ _ _ _ _ (by rfl) (by decide)) tw1412 tw1414 tp14 tw16 tw1415 (rv_X11 C) rfl ⟨by decide +kernel, by decide +kernel, rfl⟩ ⟨rfl, rfl⟩ (by rw [hR]; decide) (Nat.le_of_ble_eq_true rfl) (by rw [hR]; decide) (fun r_29 X1 M1 K1 h_30 => ?_)
          obtain ⟨rfl, hX1, hM1, hK1⟩ := h_30
          subst X1 M1 K1
          refine g_if_eq C dX11_addMark_81 (tgt := 86) (by decide) (fun c_81 => absurd c_81 (by decide)) (fun c_81 => ?_)
          refine g_iconst C dX11_addMark_84 (v := 0) (by decide) ?_
          refine g_iretW C hr hQ (Nat.le_refl _) (Nat.le_refl _) dX11_addMark_85 ?_
          exact ⟨(by first | with_reducible rfl | (subst er_1 er_5 er_9 er_13; first | with_reducible rfl | (simp only [sa_ap, si_ap, si_sa, sa_sa, sa_3, sa_4, sa_5, sa_6, sa_7, sa_8, xs_mark, xs_go, mk_sh, up_us, up_up, xs_b, c_17, c_29, c_38, c_69]; done) | (simp [sa_ap, si_ap, si_sa, sa_sa, sa_3, sa_4, sa_5, sa_6, sa_7, sa_8, xs_mark, xs_go, mk_sh, up_us, up_up, xs_b, c_17, c_29, c_38, c_69]; done))), rfl, (by first | with_reducible rfl | (subst er_1 er_5 er_9 er_13; first | with_reducible rfl | (simp only [sa_ap, si_ap, si_sa, sa_sa, sa_3, sa_4, sa_5, sa_6, sa_7, sa_8, xs_mark, xs_go, mk_sh, up_us, up_up, xs_b, c_17, c_29, c_38, c_69]; done) | (simp [sa_ap, si_ap, si_sa, sa_sa, sa_3, sa_4, sa_5, sa_6, sa_7, sa_8, xs_mark, xs_go, mk_sh, up_us, up_up, xs_b, c_17, c_29, c_38, c_69]; done))), rfl⟩
      · try simp only [sa_ap, si_ap, reduceIte, Nat.reduceEqDiff, up_us, lg_cmp_lt, lg_cmp_gt, lg_cmp_le, lg_cmp_ge] at c_38
        refine g_iconst C dX11_addMark_41 (v := 1) (by decide) ?_
        refine g_goto C dX11_addMark_42 (tgt := 46) (by decide) ?_
        refine g_iconst C dX11_addMark_46 (v := 1) (by decide) ?_
        refine g_callViW C dX11_addMark_47 (c_X11_fails_1 _ _ _ _ _ _ _ _ _ _ (by rfl) (by decide)) tw1412 tw1414 tp14 tw16 tw1415 (rv_X11 C) rfl ⟨by decide +kernel, by decide +kernel, rfl⟩ ⟨rfl, rfl⟩ (by rw [hR]; decide) (Nat.le_of_ble_eq_true rfl) (by rw [hR]; decide) (fun r_31 X1 M1 K1 h_32 => ?_)
        obtain ⟨rfl, hX1, hM1, hK1⟩ := h_32
        subst X1 M1 K1
        refine g_if_ne C dX11_addMark_50 (tgt := 84) (by decide) (fun c_50 => ?_) (fun c_50 => absurd c_50 (by decide))
        refine g_iconst C dX11_addMark_84 (v := 0) (by decide) ?_
        refine g_iretW C hr hQ (Nat.le_refl _) (Nat.le_refl _) dX11_addMark_85 ?_
        exact ⟨(by first | with_reducible rfl | (subst er_1 er_5 er_9; first | with_reducible rfl | (simp only [sa_ap, si_ap, si_sa, sa_sa, sa_3, sa_4, sa_5, sa_6, sa_7, sa_8, xs_mark, xs_go, mk_sh, up_us, up_up, xs_b, c_17, c_29, c_38]; done) | (simp [sa_ap, si_ap, si_sa, sa_sa, sa_3, sa_4, sa_5, sa_6, sa_7, sa_8, xs_mark, xs_go, mk_sh, up_us, up_up, xs_b, c_17, c_29, c_38]; done))), rfl, (by first | with_reducible rfl | (subst er_1 er_5 er_9; first | with_reducible rfl | (simp only [sa_ap, si_ap, si_sa, sa_sa, sa_3, sa_4, sa_5, sa_6, sa_7, sa_8, xs_mark, xs_go, mk_sh, up_us, up_up, xs_b, c_17, c_29, c_38]; done) | (simp [sa_ap, si_ap, si_sa, sa_sa, sa_3, sa_4, sa_5, sa_6, sa_7, sa_8, xs_mark, xs_go, mk_sh, up_us, up_up, xs_b, c_17, c_29, c_38]; done))), rfl⟩

set_option maxHeartbeats 400000 in
set_option maxRecDepth 100000 in
/-- counting.counting -/
theorem c_X11_counting (l : Launch) (D : va_G) (cy : Nat → ClassId) (A : Nat → Prop) (ad sad : Nat → Nat) (X M : XF) (K : KF) (k : Nat) (hk : k < 3) : Met l yX11_counting (wsA yX11_counting cX11_counting 4 (some .int)) ({ frames := 0, cells := 0, slots := 0, locals := 0 }) (PcW D cy A ad sad X M K [.ref (ad 42), .int (nI k)]) (QiW D cy A ad (fun r X1 M1 K1 => r = sn_cnt (M 57) k 3 ∧ X1 = X ∧ M1 = M ∧ K1 = K)) 0 0 A := by
  refine met_ofW [(0, .ref (ad 42)), (1, .int (nI k))] (by decide +kernel) (Nat.le_of_ble_eq_true rfl) rfl ?_
  intro G C hl hR hL hD hcy hA had hsa hr hQ
  subst hD hcy hA had hsa hl
  refine g_iconst C dX11_counting_0 (v := 0) (by decide) ?_
  refine g_istore_n C dX11_counting_1 (L' := [(2, .int 0), (0, .ref (gad G 42)), (1, .int (nI k))]) rfl (by rw [hL]; decide) ?_
  refine g_iconst C dX11_counting_2 (v := 3) (by decide) ?_
  refine g_iload_n C dX11_counting_3 2 rfl ?_
  refine g_imul C dX11_counting_4 ?_
  refine g_topi (sn_a k) ?_
  refine g_istore_n C dX11_counting_5 (L' := [(3, .int (nI (3 * k + 0))), (2, .int 0), (0, .ref (gad G 42)), (1, .int (nI k))]) rfl (by rw [hL]; decide) ?_
  have lp6 : ∀ (n i : Nat) (a : Int32) (hi : i + n = 3) (ha : a = sn_cnt (M 57) k i), GH G (WX G X M K) [(0, .ref (gad G 42)), (1, .int (nI k)), (2, .int a), (3, .int (nI (3 * k + i)))] 0 0 6 [] := by
    intro n
    induction n with
    | zero =>
      intro i a hi ha
      obtain rfl : i = 3 := by omega
      refine g_iload_n C dX11_counting_6 3 rfl ?_
      refine g_iconst C dX11_counting_7 (v := 3) (by decide) ?_
      refine g_iload_n C dX11_counting_8 1 rfl ?_
      refine g_imul C dX11_counting_9 ?_
      refine g_iconst C dX11_counting_10 (v := 3) (by decide) ?_
      refine g_iadd C dX11_counting_11 ?_
      refine g_topi (sn_b k) ?_
      refine g_icmp_ge C dX11_counting_12 (tgt := 38) (by decide) (fun c_12 => ?_) (fun c_12 => absurd (nI_le (a := 3 * k + 3) (b := 3 * k + 3) (Nat.le_refl _) (by omega)) c_12)
      refine g_iload_n C dX11_counting_38 2 rfl ?_
      refine g_iretW C hr hQ (Nat.le_refl _) (Nat.le_refl _) dX11_counting_39 ?_
      exact ⟨(by first | with_reducible rfl | (subst ha; first | with_reducible rfl | (simp only [sa_ap, si_ap, si_sa, sa_sa, sa_3, sa_4, sa_5, sa_6, sa_7, sa_8, sn_cnt, up_us, up_up, xs_b]; done) | (simp [sa_ap, si_ap, si_sa, sa_sa, sa_3, sa_4, sa_5, sa_6, sa_7, sa_8, sn_cnt, up_us, up_up, xs_b]; done))), (by first | with_reducible rfl | (subst ha; first | with_reducible rfl | (simp only [sa_ap, si_ap, si_sa, sa_sa, sa_3, sa_4, sa_5, sa_6, sa_7, sa_8, sn_cnt, up_us, up_up, xs_b]; done) | (simp [sa_ap, si_ap, si_sa, sa_sa, sa_3, sa_4, sa_5, sa_6, sa_7, sa_8, sn_cnt, up_us, up_up, xs_b]; done))), rfl, rfl⟩
    | succ n ih =>
      intro i a hi ha
      refine g_iload_n C dX11_counting_6 3 rfl ?_
      refine g_iconst C dX11_counting_7 (v := 3) (by decide) ?_
      refine g_iload_n C dX11_counting_8 1 rfl ?_
      refine g_imul C dX11_counting_9 ?_
      refine g_iconst C dX11_counting_10 (v := 3) (by decide) ?_
      refine g_iadd C dX11_counting_11 ?_
      refine g_topi (sn_b k) ?_
      refine g_icmp_ge C dX11_counting_12 (tgt := 38) (by decide) (fun c_12 => absurd c_12 (nI_ge (a := 3 * k + i) (b := 3 * k + 3) (by omega) (by omega))) (fun c_12 => ?_)
      refine g_iload_n C dX11_counting_15 2 rfl ?_
      refine g_aload_n C dX11_counting_16 0 rfl ?_
      refine gf_X11_isOut C tw1274 dX11_counting_17 ?_
      refine g_iload_n C dX11_counting_20 3 rfl ?_
      refine al_57 C (by omega) dX11_counting_21 ?_
      refine g_if_eq C dX11_counting_22 (tgt := 29) (by decide) (fun c_22 => ?_) (fun c_22 => ?_)
      · try simp only [sa_ap, si_ap, reduceIte, Nat.reduceEqDiff, up_us, lg_cmp_lt, lg_cmp_gt, lg_cmp_le, lg_cmp_ge] at c_22
        refine g_iconst C dX11_counting_29 (v := 1) (by decide) ?_
        refine g_iadd C dX11_counting_30 ?_
        refine g_namei (fun v_1 ev_1 => ?_)
        refine g_istore_n C dX11_counting_31 (L' := [(2, .int v_1), (0, .ref (gad G 42)), (1, .int (nI k)), (3, .int (nI (3 * k + i)))]) rfl (by rw [hL]; decide) ?_
        refine g_iinc C dX11_counting_32 3 rfl (v := nI (3 * k + (i + 1))) (nI_1 _) (L' := [(3, .int (nI (3 * k + (i + 1)))), (2, .int v_1), (0, .ref (gad G 42)), (1, .int (nI k))]) rfl (by rw [hL]; decide) ?_
        refine g_goto C dX11_counting_35 (tgt := 6) (by decide) ?_
        exact g_sub [2, 3, 1, 0] rfl (ih (i + 1) _ (by omega) (by first | with_reducible rfl | (subst ha ev_1; first | with_reducible rfl | (simp only [sa_ap, si_ap, si_sa, sa_sa, sa_3, sa_4, sa_5, sa_6, sa_7, sa_8, sn_cnt, up_us, up_up, xs_b, c_22]; done) | (simp [sa_ap, si_ap, si_sa, sa_sa, sa_3, sa_4, sa_5, sa_6, sa_7, sa_8, sn_cnt, up_us, up_up, xs_b, c_22]; done))))
      · try simp only [sa_ap, si_ap, reduceIte, Nat.reduceEqDiff, up_us, lg_cmp_lt, lg_cmp_gt, lg_cmp_le, lg_cmp_ge] at c_22
        refine g_iconst C dX11_counting_25 (v := 0) (by decide) ?_
        refine g_goto C dX11_counting_26 (tgt := 30) (by decide) ?_
        refine g_iadd C dX11_counting_30 ?_
        refine g_namei (fun v_2 ev_2 => ?_)
        refine g_istore_n C dX11_counting_31 (L' := [(2, .int v_2), (0, .ref (gad G 42)), (1, .int (nI k)), (3, .int (nI (3 * k + i)))]) rfl (by rw [hL]; decide) ?_
        refine g_iinc C dX11_counting_32 3 rfl (v := nI (3 * k + (i + 1))) (nI_1 _) (L' := [(3, .int (nI (3 * k + (i + 1)))), (2, .int v_2), (0, .ref (gad G 42)), (1, .int (nI k))]) rfl (by rw [hL]; decide) ?_
        refine g_goto C dX11_counting_35 (tgt := 6) (by decide) ?_
        exact g_sub [2, 3, 1, 0] rfl (ih (i + 1) _ (by omega) (by first | with_reducible rfl | (subst ha ev_2; first | with_reducible rfl | (simp only [sa_ap, si_ap, si_sa, sa_sa, sa_3, sa_4, sa_5, sa_6, sa_7, sa_8, sn_cnt, up_us, up_up, xs_b, c_22]; done) | (simp [sa_ap, si_ap, si_sa, sa_sa, sa_3, sa_4, sa_5, sa_6, sa_7, sa_8, sn_cnt, up_us, up_up, xs_b, c_22]; done))))
  exact g_sub [2, 3, 1, 0] rfl (lp6 (3) 0 _ (by omega) (by first | with_reducible rfl | (first | with_reducible rfl | (simp only [sa_ap, si_ap, si_sa, sa_sa, sa_3, sa_4, sa_5, sa_6, sa_7, sa_8, sn_cnt, up_us, up_up, xs_b]; done) | (simp [sa_ap, si_ap, si_sa, sa_sa, sa_3, sa_4, sa_5, sa_6, sa_7, sa_8, sn_cnt, up_us, up_up, xs_b]; done))))

set_option maxHeartbeats 400000 in
set_option maxRecDepth 100000 in
/-- together.together -/
theorem c_X11_together (l : Launch) (D : va_G) (cy : Nat → ClassId) (A : Nat → Prop) (ad sad : Nat → Nat) (X M : XF) (K : KF) (k : Nat) (hk : k < 3) (h0 : ¬ sn_cnt (M 57) k 3 = 0) : Met l yX11_together (wsA yX11_together cX11_together 6 (some .int)) ({ frames := 1, cells := 0, slots := 0, locals := 23 }) (PcW D cy A ad sad X M K [.ref (ad 42), .int (nI k)]) (QiW D cy A ad (fun r X1 M1 K1 => r = md_tog (M 57) (M 56) k ∧ X1 = X ∧ M1 = M ∧ K1 = K)) 0 0 A := by
  refine met_ofW [(0, .ref (ad 42)), (1, .int (nI k))] (by decide +kernel) (Nat.le_of_ble_eq_true rfl) rfl ?_
  intro G C hl hR hL hD hcy hA had hsa hr hQ
  subst hD hcy hA had hsa hl
  refine g_iconst C dX11_together_0 (v := 0) (by decide) ?_
  refine g_istore_n C dX11_together_1 (L' := [(2, .int 0), (0, .ref (gad G 42)), (1, .int (nI k))]) rfl (by rw [hL]; decide) ?_
  refine g_sipush C dX11_together_2 (v := 10000) (by decide) ?_
  refine g_istore_n C dX11_together_5 (L' := [(3, .int 10000), (2, .int 0), (0, .ref (gad G 42)), (1, .int (nI k))]) rfl (by rw [hL]; decide) ?_
  refine g_sipush C dX11_together_6 (v := (-10000)) (by decide) ?_
  refine g_istore C dX11_together_9 (L' := [(4, .int (-10000)), (3, .int 10000), (2, .int 0), (0, .ref (gad G 42)), (1, .int (nI k))]) rfl (by rw [hL]; decide) ?_
  refine g_iconst C dX11_together_11 (v := 3) (by decide) ?_
  refine g_iload_n C dX11_together_12 4 rfl ?_
  refine g_imul C dX11_together_13 ?_
  refine g_topi (sn_a k) ?_
  refine g_istore C dX11_together_14 (L' := [(5, .int (nI (3 * k + 0))), (4, .int (-10000)), (3, .int 10000), (2, .int 0), (0, .ref (gad G 42)), (1, .int (nI k))]) rfl (by rw [hL]; decide) ?_
  have lp16 : ∀ (n i : Nat) (a : Int32) (lo : Int32) (hh : Int32) (hi : i + n = 3) (ha : a = sn_sum (M 57) (M 56) k i) (hlo : lo = sn_lo (M 57) (M 56) k 10000 i) (hhh : hh = sn_hi (M 57) (M 56) k (-10000) i), GH G (WX G X M K) [(0, .ref (gad G 42)), (1, .int (nI k)), (2, .int a), (3, .int lo), (4, .int hh), (5, .int (nI (3 * k + i)))] 0 0 16 [] := by
    intro n
    induction n with
    | zero =>
      intro i a lo hh hi ha hlo hhh
      obtain rfl : i = 3 := by omega
      refine g_iload C dX11_together_16 5 rfl ?_
      refine g_iconst C dX11_together_18 (v := 3) (by decide) ?_
      refine g_iload_n C dX11_together_19 1 rfl ?_
      refine g_imul C dX11_together_20 ?_
      refine g_iconst C dX11_together_21 (v := 3) (by decide) ?_
      refine g_iadd C dX11_together_22 ?_
      refine g_topi (sn_b k) ?_
      refine g_icmp_ge C dX11_together_23 (tgt := 78) (by decide) (fun c_23 => ?_) (fun c_23 => absurd (nI_le (a := 3 * k + 3) (b := 3 * k + 3) (Nat.le_refl _) (by omega)) c_23)
      refine g_aload_n C dX11_together_78 0 rfl ?_
      refine g_iload_n C dX11_together_79 1 rfl ?_
      refine g_callViW C dX11_together_80 (c_X11_counting _ _ _ _ _ _ _ _ _ k hk) tw1477 tw1479 tp20 tw16 tw1480 (rv_X11 C) rfl ⟨by decide +kernel, by decide +kernel, rfl⟩ ⟨rfl, rfl⟩ (by rw [hR]; decide) (Nat.le_of_ble_eq_true rfl) (by rw [hR]; decide) (fun r_1 X1 M1 K1 h_2 => ?_)
      obtain ⟨er_1, hX1, hM1, hK1⟩ := h_2
      subst X1 M1 K1
      try simp only [sa_ap, si_ap, reduceIte, Nat.reduceEqDiff] at er_1
      refine g_istore C dX11_together_83 (L' := [(5, .int r_1), (0, .ref (gad G 42)), (1, .int (nI k)), (2, .int a), (3, .int lo), (4, .int hh)]) rfl (by rw [hL]; decide) ?_
      refine g_iload C dX11_together_85 0 rfl ?_
      refine g_iconst C dX11_together_87 (v := 3) (by decide) ?_
      refine g_icmp_ne C dX11_together_88 (tgt := 100) (by decide) (fun c_88 => ?_) (fun c_88 => ?_)
      · try simp only [sa_ap, si_ap, reduceIte, Nat.reduceEqDiff, up_us, lg_cmp_lt, lg_cmp_gt, lg_cmp_le, lg_cmp_ge] at c_88
        refine g_iload_n C dX11_together_100 3 rfl ?_
        refine g_iload C dX11_together_101 0 rfl ?_
        refine g_idiv C dX11_together_103 (by rw [er_1]; exact h0) ?_
        refine g_iretW C hr hQ (Nat.le_refl _) (Nat.le_refl _) dX11_together_104 ?_
        exact ⟨(by first | with_reducible rfl | (subst ha hlo hhh er_1; first | with_reducible rfl | (simp only [sa_ap, si_ap, si_sa, sa_sa, sa_3, sa_4, sa_5, sa_6, sa_7, sa_8, sn_sum, sn_lo, sn_hi, md_tog, up_us, up_up, xs_b, c_88]; done) | (simp [sa_ap, si_ap, si_sa, sa_sa, sa_3, sa_4, sa_5, sa_6, sa_7, sa_8, sn_sum, sn_lo, sn_hi, md_tog, up_us, up_up, xs_b, c_88]; done))), (by first | with_reducible rfl | (subst ha hlo hhh er_1; first | with_reducible rfl | (simp only [sa_ap, si_ap, si_sa, sa_sa, sa_3, sa_4, sa_5, sa_6, sa_7, sa_8, sn_sum, sn_lo, sn_hi, md_tog, up_us, up_up, xs_b, c_88]; done) | (simp [sa_ap, si_ap, si_sa, sa_sa, sa_3, sa_4, sa_5, sa_6, sa_7, sa_8, sn_sum, sn_lo, sn_hi, md_tog, up_us, up_up, xs_b, c_88]; done))), rfl, rfl⟩
      · try simp only [sa_ap, si_ap, reduceIte, Nat.reduceEqDiff, up_us, lg_cmp_lt, lg_cmp_gt, lg_cmp_le, lg_cmp_ge] at c_88
        refine g_iload_n C dX11_together_91 3 rfl ?_
        refine g_iload_n C dX11_together_92 4 rfl ?_
        refine g_isub C dX11_together_93 ?_
        refine g_iload C dX11_together_94 5 rfl ?_
        refine g_isub C dX11_together_96 ?_
        refine g_goto C dX11_together_97 (tgt := 104) (by decide) ?_
        refine g_iretW C hr hQ (Nat.le_refl _) (Nat.le_refl _) dX11_together_104 ?_
        exact ⟨(by first | with_reducible rfl | (subst ha hlo hhh er_1; first | with_reducible rfl | (simp only [sa_ap, si_ap, si_sa, sa_sa, sa_3, sa_4, sa_5, sa_6, sa_7, sa_8, sn_sum, sn_lo, sn_hi, md_tog, up_us, up_up, xs_b, c_88]; done) | (simp [sa_ap, si_ap, si_sa, sa_sa, sa_3, sa_4, sa_5, sa_6, sa_7, sa_8, sn_sum, sn_lo, sn_hi, md_tog, up_us, up_up, xs_b, c_88]; done))), (by first | with_reducible rfl | (subst ha hlo hhh er_1; first | with_reducible rfl | (simp only [sa_ap, si_ap, si_sa, sa_sa, sa_3, sa_4, sa_5, sa_6, sa_7, sa_8, sn_sum, sn_lo, sn_hi, md_tog, up_us, up_up, xs_b, c_88]; done) | (simp [sa_ap, si_ap, si_sa, sa_sa, sa_3, sa_4, sa_5, sa_6, sa_7, sa_8, sn_sum, sn_lo, sn_hi, md_tog, up_us, up_up, xs_b, c_88]; done))), rfl, rfl⟩
    | succ n ih =>
      intro i a lo hh hi ha hlo hhh
      refine g_iload C dX11_together_16 5 rfl ?_
      refine g_iconst C dX11_together_18 (v := 3) (by decide) ?_
      refine g_iload_n C dX11_together_19 1 rfl ?_
      refine g_imul C dX11_together_20 ?_
      refine g_iconst C dX11_together_21 (v := 3) (by decide) ?_
      refine g_iadd C dX11_together_22 ?_
      refine g_topi (sn_b k) ?_
      refine g_icmp_ge C dX11_together_23 (tgt := 78) (by decide) (fun c_23 => absurd c_23 (nI_ge (a := 3 * k + i) (b := 3 * k + 3) (by omega) (by omega))) (fun c_23 => ?_)
      refine g_aload_n C dX11_together_26 0 rfl ?_
      refine gf_X11_isOut C tw1274 dX11_together_27 ?_
      refine g_iload C dX11_together_30 5 rfl ?_
      refine al_57 C (by omega) dX11_together_32 ?_
      refine g_if_ne C dX11_together_33 (tgt := 72) (by decide) (fun c_33 => ?_) (fun c_33 => ?_)
      · try simp only [sa_ap, si_ap, reduceIte, Nat.reduceEqDiff, up_us, lg_cmp_lt, lg_cmp_gt, lg_cmp_le, lg_cmp_ge] at c_33
        refine g_iinc C dX11_together_72 5 rfl (v := nI (3 * k + (i + 1))) (nI_1 _) (L' := [(5, .int (nI (3 * k + (i + 1)))), (0, .ref (gad G 42)), (1, .int (nI k)), (2, .int a), (3, .int lo), (4, .int hh)]) rfl (by rw [hL]; decide) ?_
        refine g_goto C dX11_together_75 (tgt := 16) (by decide) ?_
        exact g_sub [1, 2, 3, 4, 5, 0] rfl (ih (i + 1) _ _ _ (by omega) (by first | with_reducible rfl | (subst ha hlo hhh; first | with_reducible rfl | (simp only [sa_ap, si_ap, si_sa, sa_sa, sa_3, sa_4, sa_5, sa_6, sa_7, sa_8, sn_sum, sn_lo, sn_hi, md_tog, up_us, up_up, xs_b, c_33]; done) | (simp [sa_ap, si_ap, si_sa, sa_sa, sa_3, sa_4, sa_5, sa_6, sa_7, sa_8, sn_sum, sn_lo, sn_hi, md_tog, up_us, up_up, xs_b, c_33]; done))) (by first | with_reducible rfl | (subst ha hlo hhh; first | with_reducible rfl | (simp only [sa_ap, si_ap, si_sa, sa_sa, sa_3, sa_4, sa_5, sa_6, sa_7, sa_8, sn_sum, sn_lo, sn_hi, md_tog, up_us, up_up, xs_b, c_33]; done) | (simp [sa_ap, si_ap, si_sa, sa_sa, sa_3, sa_4, sa_5, sa_6, sa_7, sa_8, sn_sum, sn_lo, sn_hi, md_tog, up_us, up_up, xs_b, c_33]; done))) (by first | with_reducible rfl | (subst ha hlo hhh; first | with_reducible rfl | (simp only [sa_ap, si_ap, si_sa, sa_sa, sa_3, sa_4, sa_5, sa_6, sa_7, sa_8, sn_sum, sn_lo, sn_hi, md_tog, up_us, up_up, xs_b, c_33]; done) | (simp [sa_ap, si_ap, si_sa, sa_sa, sa_3, sa_4, sa_5, sa_6, sa_7, sa_8, sn_sum, sn_lo, sn_hi, md_tog, up_us, up_up, xs_b, c_33]; done))))
      · try simp only [sa_ap, si_ap, reduceIte, Nat.reduceEqDiff, up_us, lg_cmp_lt, lg_cmp_gt, lg_cmp_le, lg_cmp_ge] at c_33
        refine g_iload_n C dX11_together_36 2 rfl ?_
        refine g_aload_n C dX11_together_37 0 rfl ?_
        refine gf_X11_sensed C tw1273 dX11_together_38 ?_
        refine g_iload C dX11_together_41 5 rfl ?_
        refine al_56 C (by omega) dX11_together_43 ?_
        refine g_iadd C dX11_together_44 ?_
        refine g_namei (fun v_3 ev_3 => ?_)
        refine g_istore_n C dX11_together_45 (L' := [(2, .int v_3), (0, .ref (gad G 42)), (1, .int (nI k)), (3, .int lo), (4, .int hh), (5, .int (nI (3 * k + i)))]) rfl (by rw [hL]; decide) ?_
        refine g_iload_n C dX11_together_46 3 rfl ?_
        refine g_aload_n C dX11_together_47 1 rfl ?_
        refine gf_X11_sensed C tw1273 dX11_together_48 ?_
        refine g_iload C dX11_together_51 5 rfl ?_
        refine al_56 C (by omega) dX11_together_53 ?_
        refine g_min C dX11_together_54 tw1416 (Nat.le_of_ble_eq_true rfl) (by rw [hR]; decide) ?_
        refine g_topi (y := tk_min _ _) rfl ?_
        refine g_namei (fun v_4 ev_4 => ?_)
        refine g_istore_n C dX11_together_57 (L' := [(3, .int v_4), (2, .int v_3), (0, .ref (gad G 42)), (1, .int (nI k)), (4, .int hh), (5, .int (nI (3 * k + i)))]) rfl (by rw [hL]; decide) ?_
        refine g_iload C dX11_together_58 4 rfl ?_
        refine g_aload_n C dX11_together_60 2 rfl ?_
        refine gf_X11_sensed C tw1273 dX11_together_61 ?_
        refine g_iload C dX11_together_64 5 rfl ?_
        refine al_56 C (by omega) dX11_together_66 ?_
        refine g_max C dX11_together_67 tw1476 (Nat.le_of_ble_eq_true rfl) (by rw [hR]; decide) ?_
        refine g_topi (y := tk_max _ _) rfl ?_
        refine g_namei (fun v_5 ev_5 => ?_)
        refine g_istore C dX11_together_70 (L' := [(4, .int v_5), (3, .int v_4), (2, .int v_3), (0, .ref (gad G 42)), (1, .int (nI k)), (5, .int (nI (3 * k + i)))]) rfl (by rw [hL]; decide) ?_
        refine g_iinc C dX11_together_72 5 rfl (v := nI (3 * k + (i + 1))) (nI_1 _) (L' := [(5, .int (nI (3 * k + (i + 1)))), (4, .int v_5), (3, .int v_4), (2, .int v_3), (0, .ref (gad G 42)), (1, .int (nI k))]) rfl (by rw [hL]; decide) ?_
        refine g_goto C dX11_together_75 (tgt := 16) (by decide) ?_
        exact g_sub [4, 5, 3, 2, 1, 0] rfl (ih (i + 1) _ _ _ (by omega) (by first | with_reducible rfl | (subst ha hlo hhh ev_3 ev_4 ev_5; first | with_reducible rfl | (simp only [sa_ap, si_ap, si_sa, sa_sa, sa_3, sa_4, sa_5, sa_6, sa_7, sa_8, sn_sum, sn_lo, sn_hi, md_tog, up_us, up_up, xs_b, c_33]; done) | (simp [sa_ap, si_ap, si_sa, sa_sa, sa_3, sa_4, sa_5, sa_6, sa_7, sa_8, sn_sum, sn_lo, sn_hi, md_tog, up_us, up_up, xs_b, c_33]; done))) (by first | with_reducible rfl | (subst ha hlo hhh ev_3 ev_4 ev_5; first | with_reducible rfl | (simp only [sa_ap, si_ap, si_sa, sa_sa, sa_3, sa_4, sa_5, sa_6, sa_7, sa_8, sn_sum, sn_lo, sn_hi, md_tog, up_us, up_up, xs_b, c_33]; done) | (simp [sa_ap, si_ap, si_sa, sa_sa, sa_3, sa_4, sa_5, sa_6, sa_7, sa_8, sn_sum, sn_lo, sn_hi, md_tog, up_us, up_up, xs_b, c_33]; done))) (by first | with_reducible rfl | (subst ha hlo hhh ev_3 ev_4 ev_5; first | with_reducible rfl | (simp only [sa_ap, si_ap, si_sa, sa_sa, sa_3, sa_4, sa_5, sa_6, sa_7, sa_8, sn_sum, sn_lo, sn_hi, md_tog, up_us, up_up, xs_b, c_33]; done) | (simp [sa_ap, si_ap, si_sa, sa_sa, sa_3, sa_4, sa_5, sa_6, sa_7, sa_8, sn_sum, sn_lo, sn_hi, md_tog, up_us, up_up, xs_b, c_33]; done))))
  exact g_sub [4, 5, 3, 2, 1, 0] rfl (lp16 (3) 0 _ _ _ (by omega) (by first | with_reducible rfl | (first | with_reducible rfl | (simp only [sa_ap, si_ap, si_sa, sa_sa, sa_3, sa_4, sa_5, sa_6, sa_7, sa_8, sn_sum, sn_lo, sn_hi, md_tog, up_us, up_up, xs_b]; done) | (simp [sa_ap, si_ap, si_sa, sa_sa, sa_3, sa_4, sa_5, sa_6, sa_7, sa_8, sn_sum, sn_lo, sn_hi, md_tog, up_us, up_up, xs_b]; done))) (by first | with_reducible rfl | (first | with_reducible rfl | (simp only [sa_ap, si_ap, si_sa, sa_sa, sa_3, sa_4, sa_5, sa_6, sa_7, sa_8, sn_sum, sn_lo, sn_hi, md_tog, up_us, up_up, xs_b]; done) | (simp [sa_ap, si_ap, si_sa, sa_sa, sa_3, sa_4, sa_5, sa_6, sa_7, sa_8, sn_sum, sn_lo, sn_hi, md_tog, up_us, up_up, xs_b]; done))) (by first | with_reducible rfl | (first | with_reducible rfl | (simp only [sa_ap, si_ap, si_sa, sa_sa, sa_3, sa_4, sa_5, sa_6, sa_7, sa_8, sn_sum, sn_lo, sn_hi, md_tog, up_us, up_up, xs_b]; done) | (simp [sa_ap, si_ap, si_sa, sa_sa, sa_3, sa_4, sa_5, sa_6, sa_7, sa_8, sn_sum, sn_lo, sn_hi, md_tog, up_us, up_up, xs_b]; done))))

set_option maxHeartbeats 400000 in
set_option maxRecDepth 100000 in
/-- sense.sense -/
theorem c_X11_sense (l : Launch) (D : va_G) (cy : Nat → ClassId) (A : Nat → Prop) (ad sad : Nat → Nat) (X M : XF) (K : KF) (p1 p2 : Int32) (h0 : ∀ k : Nat, k < 3 → ¬ sn_cnt (M 57) k 3 = 0) : Met l yX11_sense (wsA yX11_sense cX11_sense 3 (some .int)) ({ frames := 2, cells := 0, slots := 0, locals := 48 }) (PcW D cy A ad sad X M K [.ref (ad 42), .int p1, .int p2]) (QiW D cy A ad (fun r X1 M1 K1 => r = (if xs_sense p1 p2 = 0 then md_tog (M 57) (upd (M 56) p1.toNatClampNeg p2) (p1.toNatClampNeg / 3) else 0) ∧ X1 = X ∧ M1 = (if xs_sense p1 p2 = 0 then sa (si M 100 0) 56 (upd (M 56) p1.toNatClampNeg p2) else si M 100 (xs_sense p1 p2)) ∧ K1 = K)) 0 0 A := by
  refine met_ofW [(0, .ref (ad 42)), (1, .int p1), (2, .int p2)] (by decide +kernel) (Nat.le_of_ble_eq_true rfl) rfl ?_
  intro G C hl hR hL hD hcy hA had hsa hr hQ
  subst hD hcy hA had hsa hl
  refine g_aload_n C dX11_sense_0 0 rfl ?_
  refine g_iconst C dX11_sense_1 (v := 0) (by decide) ?_
  refine pf_X11_thrown C tw1243 dX11_sense_2 ?_
  refine g_aload_n C dX11_sense_5 0 rfl ?_
  refine g_iload_n C dX11_sense_6 1 rfl ?_
  refine g_i2l C dX11_sense_7 ?_
  refine g_lconst C dX11_sense_8 (v := 0) (by decide) ?_
  refine g_ldc2 C dX11_sense_9 tw1469 ?_
  refine g_callSiW C dX11_sense_12 (c_X11_in _ _ _ _ _ _ _ _ _ _ _ _) tw1406 tw1407 tw16 tw1408 rfl ⟨by decide +kernel, by decide +kernel, rfl⟩ ⟨rfl, rfl⟩ (by rw [hR]; decide) (Nat.le_of_ble_eq_true rfl) (by rw [hR]; decide) (fun r_1 X1 M1 K1 h_2 => ?_)
  obtain ⟨er_1, hX1, hM1, hK1⟩ := h_2
  subst X1 M1 K1
  try simp only [sa_ap, si_ap, reduceIte, Nat.reduceEqDiff] at er_1
  refine g_if_eq C dX11_sense_15 (tgt := 32) (by decide) (fun c_15 => ?_) (fun c_15 => ?_)
  · try simp only [sa_ap, si_ap, reduceIte, Nat.reduceEqDiff, up_us, lg_cmp_lt, lg_cmp_gt, lg_cmp_le, lg_cmp_ge] at c_15
    refine g_iconst C dX11_sense_32 (v := 1) (by decide) ?_
    refine g_goto C dX11_sense_33 (tgt := 37) (by decide) ?_
    refine g_iconst C dX11_sense_37 (v := 1) (by decide) ?_
    refine g_callViW C dX11_sense_38 (c_X11_fails_1 _ _ _ _ _ _ _ _ _ _ (by rfl) (by decide)) tw1412 tw1414 tp14 tw16 tw1415 (rv_X11 C) rfl ⟨by decide +kernel, by decide +kernel, rfl⟩ ⟨rfl, rfl⟩ (by rw [hR]; decide) (Nat.le_of_ble_eq_true rfl) (by rw [hR]; decide) (fun r_3 X1 M1 K1 h_4 => ?_)
    obtain ⟨rfl, hX1, hM1, hK1⟩ := h_4
    subst X1 M1 K1
    refine g_if_eq C dX11_sense_41 (tgt := 46) (by decide) (fun c_41 => absurd c_41 (by decide)) (fun c_41 => ?_)
    refine g_iconst C dX11_sense_44 (v := 0) (by decide) ?_
    refine g_iretW C hr hQ (Nat.le_refl _) (Nat.le_refl _) dX11_sense_45 ?_
    exact ⟨(by first | with_reducible rfl | (subst er_1; first | with_reducible rfl | (simp only [sa_ap, si_ap, si_sa, sa_sa, sa_3, sa_4, sa_5, sa_6, sa_7, sa_8, xs_sense, up_us, up_up, xs_b, c_15]; done) | (simp [sa_ap, si_ap, si_sa, sa_sa, sa_3, sa_4, sa_5, sa_6, sa_7, sa_8, xs_sense, up_us, up_up, xs_b, c_15]; done))), rfl, (by first | with_reducible rfl | (subst er_1; first | with_reducible rfl | (simp only [sa_ap, si_ap, si_sa, sa_sa, sa_3, sa_4, sa_5, sa_6, sa_7, sa_8, xs_sense, up_us, up_up, xs_b, c_15]; done) | (simp [sa_ap, si_ap, si_sa, sa_sa, sa_3, sa_4, sa_5, sa_6, sa_7, sa_8, xs_sense, up_us, up_up, xs_b, c_15]; done))), rfl⟩
  · try simp only [sa_ap, si_ap, reduceIte, Nat.reduceEqDiff, up_us, lg_cmp_lt, lg_cmp_gt, lg_cmp_le, lg_cmp_ge] at c_15
    obtain ⟨j, hj, rfl⟩ := lin_ix (p := p1) (b := 8) (n := 9) (by decide) (by decide) (by rw [← er_1]; exact c_15)
    have c_clj : (nI j).toNatClampNeg = j := nI_clamp (by omega)
    refine g_iload_n C dX11_sense_18 2 rfl ?_
    refine g_i2l C dX11_sense_19 ?_
    refine g_ldc2 C dX11_sense_20 tw1470 ?_
    refine g_ldc2 C dX11_sense_23 tw1471 ?_
    refine g_callSiW C dX11_sense_26 (c_X11_in _ _ _ _ _ _ _ _ _ _ _ _) tw1406 tw1407 tw16 tw1408 rfl ⟨by decide +kernel, by decide +kernel, rfl⟩ ⟨rfl, rfl⟩ (by rw [hR]; decide) (Nat.le_of_ble_eq_true rfl) (by rw [hR]; decide) (fun r_5 X1 M1 K1 h_6 => ?_)
    obtain ⟨er_5, hX1, hM1, hK1⟩ := h_6
    subst X1 M1 K1
    try simp only [sa_ap, si_ap, reduceIte, Nat.reduceEqDiff] at er_5
    refine g_if_ne C dX11_sense_29 (tgt := 36) (by decide) (fun c_29 => ?_) (fun c_29 => ?_)
    · try simp only [sa_ap, si_ap, reduceIte, Nat.reduceEqDiff, up_us, lg_cmp_lt, lg_cmp_gt, lg_cmp_le, lg_cmp_ge] at c_29
      refine g_iconst C dX11_sense_36 (v := 0) (by decide) ?_
      refine g_iconst C dX11_sense_37 (v := 1) (by decide) ?_
      refine g_callViW C dX11_sense_38 (c_X11_fails_0 _ _ _ _ _ _ _ _ _ _ (by rfl)) tw1412 tw1414 tp14 tw16 tw1415 (rv_X11 C) rfl ⟨by decide +kernel, by decide +kernel, rfl⟩ ⟨rfl, rfl⟩ (by rw [hR]; decide) (Nat.le_of_ble_eq_true rfl) (by rw [hR]; decide) (fun r_7 X1 M1 K1 h_8 => ?_)
      obtain ⟨rfl, hX1, hM1, hK1⟩ := h_8
      subst X1 M1 K1
      refine g_if_eq C dX11_sense_41 (tgt := 46) (by decide) (fun c_41 => ?_) (fun c_41 => absurd (by decide) c_41)
      refine g_aload_n C dX11_sense_46 0 rfl ?_
      refine gf_X11_sensed C tw1273 dX11_sense_47 ?_
      refine g_iload_n C dX11_sense_50 1 rfl ?_
      refine g_iload_n C dX11_sense_51 2 rfl ?_
      refine as_56 C (by omega) dX11_sense_52 ?_
      refine g_aload_n C dX11_sense_53 0 rfl ?_
      refine g_iload_n C dX11_sense_54 1 rfl ?_
      refine g_iconst C dX11_sense_55 (v := 3) (by decide) ?_
      refine g_idiv C dX11_sense_56 (by decide) ?_
      refine g_topi (sn_d hj) ?_
      refine g_callViW C dX11_sense_57 (c_X11_together _ _ _ _ _ _ _ _ _ (j / 3) (by omega) (h0 (j / 3) (by omega))) tw1472 tw1474 tp19 tw16 tw1475 (rv_X11 C) rfl ⟨by decide +kernel, by decide +kernel, rfl⟩ ⟨rfl, rfl⟩ (by rw [hR]; decide) (Nat.le_of_ble_eq_true rfl) (by rw [hR]; decide) (fun r_9 X1 M1 K1 h_10 => ?_)
      obtain ⟨er_9, hX1, hM1, hK1⟩ := h_10
      subst X1 M1 K1
      try simp only [sa_ap, si_ap, reduceIte, Nat.reduceEqDiff] at er_9
      refine g_iretW C hr hQ (Nat.le_refl _) (Nat.le_refl _) dX11_sense_60 ?_
      exact ⟨(by first | with_reducible rfl | (subst er_1 er_5 er_9; first | with_reducible rfl | (simp only [sa_ap, si_ap, si_sa, sa_sa, sa_3, sa_4, sa_5, sa_6, sa_7, sa_8, xs_sense, up_us, up_up, xs_b, c_15, c_clj, c_29]; done) | (simp [sa_ap, si_ap, si_sa, sa_sa, sa_3, sa_4, sa_5, sa_6, sa_7, sa_8, xs_sense, up_us, up_up, xs_b, c_15, c_clj, c_29]; done))), rfl, (by first | with_reducible rfl | (subst er_1 er_5 er_9; first | with_reducible rfl | (simp only [sa_ap, si_ap, si_sa, sa_sa, sa_3, sa_4, sa_5, sa_6, sa_7, sa_8, xs_sense, up_us, up_up, xs_b, c_15, c_clj, c_29]; done) | (simp [sa_ap, si_ap, si_sa, sa_sa, sa_3, sa_4, sa_5, sa_6, sa_7, sa_8, xs_sense, up_us, up_up, xs_b, c_15, c_clj, c_29]; done))), rfl⟩
    · try simp only [sa_ap, si_ap, reduceIte, Nat.reduceEqDiff, up_us, lg_cmp_lt, lg_cmp_gt, lg_cmp_le, lg_cmp_ge] at c_29
      refine g_iconst C dX11_sense_32 (v := 1) (by decide) ?_
      refine g_goto C dX11_sense_33 (tgt := 37) (by decide) ?_
      refine g_iconst C dX11_sense_37 (v := 1) (by decide) ?_
      refine g_callViW C dX11_sense_38 (c_X11_fails_1 _ _ _ _ _ _ _ _ _ _ (by rfl) (by decide)) tw1412 tw1414 tp14 tw16 tw1415 (rv_X11 C) rfl ⟨by decide +kernel, by decide +kernel, rfl⟩ ⟨rfl, rfl⟩ (by rw [hR]; decide) (Nat.le_of_ble_eq_true rfl) (by rw [hR]; decide) (fun r_11 X1 M1 K1 h_12 => ?_)
      obtain ⟨rfl, hX1, hM1, hK1⟩ := h_12
      subst X1 M1 K1
      refine g_if_eq C dX11_sense_41 (tgt := 46) (by decide) (fun c_41 => absurd c_41 (by decide)) (fun c_41 => ?_)
      refine g_iconst C dX11_sense_44 (v := 0) (by decide) ?_
      refine g_iretW C hr hQ (Nat.le_refl _) (Nat.le_refl _) dX11_sense_45 ?_
      exact ⟨(by first | with_reducible rfl | (subst er_1 er_5; first | with_reducible rfl | (simp only [sa_ap, si_ap, si_sa, sa_sa, sa_3, sa_4, sa_5, sa_6, sa_7, sa_8, xs_sense, up_us, up_up, xs_b, c_15, c_clj, c_29]; done) | (simp [sa_ap, si_ap, si_sa, sa_sa, sa_3, sa_4, sa_5, sa_6, sa_7, sa_8, xs_sense, up_us, up_up, xs_b, c_15, c_clj, c_29]; done))), rfl, (by first | with_reducible rfl | (subst er_1 er_5; first | with_reducible rfl | (simp only [sa_ap, si_ap, si_sa, sa_sa, sa_3, sa_4, sa_5, sa_6, sa_7, sa_8, xs_sense, up_us, up_up, xs_b, c_15, c_clj, c_29]; done) | (simp [sa_ap, si_ap, si_sa, sa_sa, sa_3, sa_4, sa_5, sa_6, sa_7, sa_8, xs_sense, up_us, up_up, xs_b, c_15, c_clj, c_29]; done))), rfl⟩

set_option maxHeartbeats 400000 in
set_option maxRecDepth 100000 in
/-- inhibit.inhibit -/
theorem c_X11_inhibit (l : Launch) (D : va_G) (cy : Nat → ClassId) (A : Nat → Prop) (ad sad : Nat → Nat) (X M : XF) (K : KF) (p1 p2 : Int32) (h2 : isBo p2) : Met l yX11_inhibit (wsA yX11_inhibit cX11_inhibit 3 (some .int)) ({ frames := 1, cells := 0, slots := 0, locals := 25 }) (PcW D cy A ad sad X M K [.ref (ad 42), .int p1, .int p2]) (QiW D cy A ad (fun r X1 M1 K1 => r = (if xs_inh (M 57) p1 p2 = 0 then sn_cnt (upd (M 57) p1.toNatClampNeg p2) (p1.toNatClampNeg / 3) 3 else 0) ∧ X1 = X ∧ M1 = (if xs_inh (M 57) p1 p2 = 0 then sa (si M 100 0) 57 (upd (M 57) p1.toNatClampNeg p2) else si M 100 (xs_inh (M 57) p1 p2)) ∧ K1 = K)) 0 0 A := by
  refine met_ofW [(0, .ref (ad 42)), (1, .int p1), (2, .int p2)] (by decide +kernel) (Nat.le_of_ble_eq_true rfl) rfl ?_
  intro G C hl hR hL hD hcy hA had hsa hr hQ
  subst hD hcy hA had hsa hl
  refine g_aload_n C dX11_inhibit_0 0 rfl ?_
  refine g_iconst C dX11_inhibit_1 (v := 0) (by decide) ?_
  refine pf_X11_thrown C tw1243 dX11_inhibit_2 ?_
  refine g_aload_n C dX11_inhibit_5 0 rfl ?_
  refine g_iload_n C dX11_inhibit_6 1 rfl ?_
  refine g_i2l C dX11_inhibit_7 ?_
  refine g_lconst C dX11_inhibit_8 (v := 0) (by decide) ?_
  refine g_ldc2 C dX11_inhibit_9 tw1469 ?_
  refine g_callSiW C dX11_inhibit_12 (c_X11_in _ _ _ _ _ _ _ _ _ _ _ _) tw1406 tw1407 tw16 tw1408 rfl ⟨by decide +kernel, by decide +kernel, rfl⟩ ⟨rfl, rfl⟩ (by rw [hR]; decide) (Nat.le_of_ble_eq_true rfl) (by rw [hR]; decide) (fun r_1 X1 M1 K1 h_2 => ?_)
  obtain ⟨er_1, hX1, hM1, hK1⟩ := h_2
  subst X1 M1 K1
  try simp only [sa_ap, si_ap, reduceIte, Nat.reduceEqDiff] at er_1
  refine g_if_ne C dX11_inhibit_15 (tgt := 22) (by decide) (fun c_15 => ?_) (fun c_15 => ?_)
  · try simp only [sa_ap, si_ap, reduceIte, Nat.reduceEqDiff, up_us, lg_cmp_lt, lg_cmp_gt, lg_cmp_le, lg_cmp_ge] at c_15
    obtain ⟨j, hj, rfl⟩ := lin_ix (p := p1) (b := 8) (n := 9) (by decide) (by decide) (by rw [← er_1]; exact c_15)
    have c_clj : (nI j).toNatClampNeg = j := nI_clamp (by omega)
    refine g_iconst C dX11_inhibit_22 (v := 0) (by decide) ?_
    refine g_iconst C dX11_inhibit_23 (v := 1) (by decide) ?_
    refine g_callViW C dX11_inhibit_24 (c_X11_fails_0 _ _ _ _ _ _ _ _ _ _ (by rfl)) tw1412 tw1414 tp14 tw16 tw1415 (rv_X11 C) rfl ⟨by decide +kernel, by decide +kernel, rfl⟩ ⟨rfl, rfl⟩ (by rw [hR]; decide) (Nat.le_of_ble_eq_true rfl) (by rw [hR]; decide) (fun r_3 X1 M1 K1 h_4 => ?_)
    obtain ⟨rfl, hX1, hM1, hK1⟩ := h_4
    subst X1 M1 K1
    refine g_if_ne C dX11_inhibit_27 (tgt := 67) (by decide) (fun c_27 => absurd c_27 (by decide)) (fun c_27 => ?_)
    refine g_aload_n C dX11_inhibit_30 0 rfl ?_
    refine g_iload_n C dX11_inhibit_31 2 rfl ?_
    refine g_if_eq C dX11_inhibit_32 (tgt := 59) (by decide) (fun c_32 => ?_) (fun c_32 => ?_)
    · try simp only [sa_ap, si_ap, reduceIte, Nat.reduceEqDiff, up_us, lg_cmp_lt, lg_cmp_gt, lg_cmp_le, lg_cmp_ge] at c_32
      refine g_iconst C dX11_inhibit_59 (v := 0) (by decide) ?_
      refine g_iconst C dX11_inhibit_60 (v := 2) (by decide) ?_
      refine g_callViW C dX11_inhibit_61 (c_X11_fails_0 _ _ _ _ _ _ _ _ _ _ (by rfl)) tw1412 tw1414 tp14 tw16 tw1415 (rv_X11 C) rfl ⟨by decide +kernel, by decide +kernel, rfl⟩ ⟨rfl, rfl⟩ (by rw [hR]; decide) (Nat.le_of_ble_eq_true rfl) (by rw [hR]; decide) (fun r_5 X1 M1 K1 h_6 => ?_)
      obtain ⟨rfl, hX1, hM1, hK1⟩ := h_6
      subst X1 M1 K1
      refine g_if_eq C dX11_inhibit_64 (tgt := 69) (by decide) (fun c_64 => ?_) (fun c_64 => absurd (by decide) c_64)
      refine g_aload_n C dX11_inhibit_69 0 rfl ?_
      refine gf_X11_isOut C tw1274 dX11_inhibit_70 ?_
      refine g_iload_n C dX11_inhibit_73 1 rfl ?_
      refine g_iload_n C dX11_inhibit_74 2 rfl ?_
      refine as_57 C (by first | exact isBo_0 | exact isBo_1 | assumption) (by omega) dX11_inhibit_75 ?_
      refine g_aload_n C dX11_inhibit_76 0 rfl ?_
      refine g_iload_n C dX11_inhibit_77 1 rfl ?_
      refine g_iconst C dX11_inhibit_78 (v := 3) (by decide) ?_
      refine g_idiv C dX11_inhibit_79 (by decide) ?_
      refine g_topi (sn_d hj) ?_
      refine g_callViW C dX11_inhibit_80 (c_X11_counting _ _ _ _ _ _ _ _ _ (j / 3) (by omega)) tw1477 tw1479 tp20 tw16 tw1480 (rv_X11 C) rfl ⟨by decide +kernel, by decide +kernel, rfl⟩ ⟨rfl, rfl⟩ (by rw [hR]; decide) (Nat.le_of_ble_eq_true rfl) (by rw [hR]; decide) (fun r_7 X1 M1 K1 h_8 => ?_)
      obtain ⟨er_7, hX1, hM1, hK1⟩ := h_8
      subst X1 M1 K1
      try simp only [sa_ap, si_ap, reduceIte, Nat.reduceEqDiff] at er_7
      refine g_iretW C hr hQ (Nat.le_refl _) (Nat.le_refl _) dX11_inhibit_83 ?_
      exact ⟨(by first | with_reducible rfl | (subst er_1 er_7; first | with_reducible rfl | (simp only [sa_ap, si_ap, si_sa, sa_sa, sa_3, sa_4, sa_5, sa_6, sa_7, sa_8, xs_inh, up_us, up_up, xs_b, c_15, c_clj, c_32]; done) | (simp [sa_ap, si_ap, si_sa, sa_sa, sa_3, sa_4, sa_5, sa_6, sa_7, sa_8, xs_inh, up_us, up_up, xs_b, c_15, c_clj, c_32]; done))), rfl, (by first | with_reducible rfl | (subst er_1 er_7; first | with_reducible rfl | (simp only [sa_ap, si_ap, si_sa, sa_sa, sa_3, sa_4, sa_5, sa_6, sa_7, sa_8, xs_inh, up_us, up_up, xs_b, c_15, c_clj, c_32]; done) | (simp [sa_ap, si_ap, si_sa, sa_sa, sa_3, sa_4, sa_5, sa_6, sa_7, sa_8, xs_inh, up_us, up_up, xs_b, c_15, c_clj, c_32]; done))), rfl⟩
    · try simp only [sa_ap, si_ap, reduceIte, Nat.reduceEqDiff, up_us, lg_cmp_lt, lg_cmp_gt, lg_cmp_le, lg_cmp_ge] at c_32
      refine g_aload_n C dX11_inhibit_35 0 rfl ?_
      refine gf_X11_isOut C tw1274 dX11_inhibit_36 ?_
      refine g_iload_n C dX11_inhibit_39 1 rfl ?_
      refine al_57 C (by omega) dX11_inhibit_40 ?_
      refine g_if_ne C dX11_inhibit_41 (tgt := 59) (by decide) (fun c_41 => ?_) (fun c_41 => ?_)
      · try simp only [sa_ap, si_ap, reduceIte, Nat.reduceEqDiff, up_us, lg_cmp_lt, lg_cmp_gt, lg_cmp_le, lg_cmp_ge] at c_41
        refine g_iconst C dX11_inhibit_59 (v := 0) (by decide) ?_
        refine g_iconst C dX11_inhibit_60 (v := 2) (by decide) ?_
        refine g_callViW C dX11_inhibit_61 (c_X11_fails_0 _ _ _ _ _ _ _ _ _ _ (by rfl)) tw1412 tw1414 tp14 tw16 tw1415 (rv_X11 C) rfl ⟨by decide +kernel, by decide +kernel, rfl⟩ ⟨rfl, rfl⟩ (by rw [hR]; decide) (Nat.le_of_ble_eq_true rfl) (by rw [hR]; decide) (fun r_9 X1 M1 K1 h_10 => ?_)
        obtain ⟨rfl, hX1, hM1, hK1⟩ := h_10
        subst X1 M1 K1
        refine g_if_eq C dX11_inhibit_64 (tgt := 69) (by decide) (fun c_64 => ?_) (fun c_64 => absurd (by decide) c_64)
        refine g_aload_n C dX11_inhibit_69 0 rfl ?_
        refine gf_X11_isOut C tw1274 dX11_inhibit_70 ?_
        refine g_iload_n C dX11_inhibit_73 1 rfl ?_
        refine g_iload_n C dX11_inhibit_74 2 rfl ?_
        refine as_57 C (by first | exact isBo_0 | exact isBo_1 | assumption) (by omega) dX11_inhibit_75 ?_
        refine g_aload_n C dX11_inhibit_76 0 rfl ?_
        refine g_iload_n C dX11_inhibit_77 1 rfl ?_
        refine g_iconst C dX11_inhibit_78 (v := 3) (by decide) ?_
        refine g_idiv C dX11_inhibit_79 (by decide) ?_
        refine g_topi (sn_d hj) ?_
        refine g_callViW C dX11_inhibit_80 (c_X11_counting _ _ _ _ _ _ _ _ _ (j / 3) (by omega)) tw1477 tw1479 tp20 tw16 tw1480 (rv_X11 C) rfl ⟨by decide +kernel, by decide +kernel, rfl⟩ ⟨rfl, rfl⟩ (by rw [hR]; decide) (Nat.le_of_ble_eq_true rfl) (by rw [hR]; decide) (fun r_11 X1 M1 K1 h_12 => ?_)
        obtain ⟨er_11, hX1, hM1, hK1⟩ := h_12
        subst X1 M1 K1
        try simp only [sa_ap, si_ap, reduceIte, Nat.reduceEqDiff] at er_11
        refine g_iretW C hr hQ (Nat.le_refl _) (Nat.le_refl _) dX11_inhibit_83 ?_
        exact ⟨(by first | with_reducible rfl | (subst er_1 er_11; first | with_reducible rfl | (simp only [sa_ap, si_ap, si_sa, sa_sa, sa_3, sa_4, sa_5, sa_6, sa_7, sa_8, xs_inh, up_us, up_up, xs_b, c_15, c_clj, c_32, c_41]; done) | (simp [sa_ap, si_ap, si_sa, sa_sa, sa_3, sa_4, sa_5, sa_6, sa_7, sa_8, xs_inh, up_us, up_up, xs_b, c_15, c_clj, c_32, c_41]; done))), rfl, (by first | with_reducible rfl | (subst er_1 er_11; first | with_reducible rfl | (simp only [sa_ap, si_ap, si_sa, sa_sa, sa_3, sa_4, sa_5, sa_6, sa_7, sa_8, xs_inh, up_us, up_up, xs_b, c_15, c_clj, c_32, c_41]; done) | (simp [sa_ap, si_ap, si_sa, sa_sa, sa_3, sa_4, sa_5, sa_6, sa_7, sa_8, xs_inh, up_us, up_up, xs_b, c_15, c_clj, c_32, c_41]; done))), rfl⟩
      · try simp only [sa_ap, si_ap, reduceIte, Nat.reduceEqDiff, up_us, lg_cmp_lt, lg_cmp_gt, lg_cmp_le, lg_cmp_ge] at c_41
        refine g_aload_n C dX11_inhibit_44 0 rfl ?_
        refine g_iload_n C dX11_inhibit_45 1 rfl ?_
        refine g_iconst C dX11_inhibit_46 (v := 3) (by decide) ?_
        refine g_idiv C dX11_inhibit_47 (by decide) ?_
        refine g_topi (sn_d hj) ?_
        refine g_callViW C dX11_inhibit_48 (c_X11_counting _ _ _ _ _ _ _ _ _ (j / 3) (by omega)) tw1477 tw1479 tp20 tw16 tw1480 (rv_X11 C) rfl ⟨by decide +kernel, by decide +kernel, rfl⟩ ⟨rfl, rfl⟩ (by rw [hR]; decide) (Nat.le_of_ble_eq_true rfl) (by rw [hR]; decide) (fun r_13 X1 M1 K1 h_14 => ?_)
        obtain ⟨er_13, hX1, hM1, hK1⟩ := h_14
        subst X1 M1 K1
        try simp only [sa_ap, si_ap, reduceIte, Nat.reduceEqDiff] at er_13
        refine g_iconst C dX11_inhibit_51 (v := 1) (by decide) ?_
        refine g_icmp_ne C dX11_inhibit_52 (tgt := 59) (by decide) (fun c_52 => ?_) (fun c_52 => ?_)
        · try simp only [sa_ap, si_ap, reduceIte, Nat.reduceEqDiff, up_us, lg_cmp_lt, lg_cmp_gt, lg_cmp_le, lg_cmp_ge] at c_52
          refine g_iconst C dX11_inhibit_59 (v := 0) (by decide) ?_
          refine g_iconst C dX11_inhibit_60 (v := 2) (by decide) ?_
          refine g_callViW C dX11_inhibit_61 (c_X11_fails_0 _ _ _ _ _ _ _ _ _ _ (by rfl)) tw1412 tw1414 tp14 tw16 tw1415 (rv_X11 C) rfl ⟨by decide +kernel, by decide +kernel, rfl⟩ ⟨rfl, rfl⟩ (by rw [hR]; decide) (Nat.le_of_ble_eq_true rfl) (by rw [hR]; decide) (fun r_15 X1 M1 K1 h_16 => ?_)
          obtain ⟨rfl, hX1, hM1, hK1⟩ := h_16
          subst X1 M1 K1
          refine g_if_eq C dX11_inhibit_64 (tgt := 69) (by decide) (fun c_64 => ?_) (fun c_64 => absurd (by decide) c_64)
          refine g_aload_n C dX11_inhibit_69 0 rfl ?_
          refine gf_X11_isOut C tw1274 dX11_inhibit_70 ?_
          refine g_iload_n C dX11_inhibit_73 1 rfl ?_
          refine g_iload_n C dX11_inhibit_74 2 rfl ?_
          refine as_57 C (by first | exact isBo_0 | exact isBo_1 | assumption) (by omega) dX11_inhibit_75 ?_
          refine g_aload_n C dX11_inhibit_76 0 rfl ?_
          refine g_iload_n C dX11_inhibit_77 1 rfl ?_
          refine g_iconst C dX11_inhibit_78 (v := 3) (by decide) ?_
          refine g_idiv C dX11_inhibit_79 (by decide) ?_
          refine g_topi (sn_d hj) ?_
          refine g_callViW C dX11_inhibit_80 (c_X11_counting _ _ _ _ _ _ _ _ _ (j / 3) (by omega)) tw1477 tw1479 tp20 tw16 tw1480 (rv_X11 C) rfl ⟨by decide +kernel, by decide +kernel, rfl⟩ ⟨rfl, rfl⟩ (by rw [hR]; decide) (Nat.le_of_ble_eq_true rfl) (by rw [hR]; decide) (fun r_17 X1 M1 K1 h_18 => ?_)
          obtain ⟨er_17, hX1, hM1, hK1⟩ := h_18
          subst X1 M1 K1
          try simp only [sa_ap, si_ap, reduceIte, Nat.reduceEqDiff] at er_17
          refine g_iretW C hr hQ (Nat.le_refl _) (Nat.le_refl _) dX11_inhibit_83 ?_
          exact ⟨(by first | with_reducible rfl | (subst er_1 er_13 er_17; first | with_reducible rfl | (simp only [sa_ap, si_ap, si_sa, sa_sa, sa_3, sa_4, sa_5, sa_6, sa_7, sa_8, xs_inh, up_us, up_up, xs_b, c_15, c_clj, c_32, c_41, c_52]; done) | (simp [sa_ap, si_ap, si_sa, sa_sa, sa_3, sa_4, sa_5, sa_6, sa_7, sa_8, xs_inh, up_us, up_up, xs_b, c_15, c_clj, c_32, c_41, c_52]; done))), rfl, (by first | with_reducible rfl | (subst er_1 er_13 er_17; first | with_reducible rfl | (simp only [sa_ap, si_ap, si_sa, sa_sa, sa_3, sa_4, sa_5, sa_6, sa_7, sa_8, xs_inh, up_us, up_up, xs_b, c_15, c_clj, c_32, c_41, c_52]; done) | (simp [sa_ap, si_ap, si_sa, sa_sa, sa_3, sa_4, sa_5, sa_6, sa_7, sa_8, xs_inh, up_us, up_up, xs_b, c_15, c_clj, c_32, c_41, c_52]; done))), rfl⟩
        · try simp only [sa_ap, si_ap, reduceIte, Nat.reduceEqDiff, up_us, lg_cmp_lt, lg_cmp_gt, lg_cmp_le, lg_cmp_ge] at c_52
          refine g_iconst C dX11_inhibit_55 (v := 1) (by decide) ?_
          refine g_goto C dX11_inhibit_56 (tgt := 60) (by decide) ?_
          refine g_iconst C dX11_inhibit_60 (v := 2) (by decide) ?_
          refine g_callViW C dX11_inhibit_61 (c_X11_fails_1 _ _ _ _ _ _ _ _ _ _ (by rfl) (by decide)) tw1412 tw1414 tp14 tw16 tw1415 (rv_X11 C) rfl ⟨by decide +kernel, by decide +kernel, rfl⟩ ⟨rfl, rfl⟩ (by rw [hR]; decide) (Nat.le_of_ble_eq_true rfl) (by rw [hR]; decide) (fun r_19 X1 M1 K1 h_20 => ?_)
          obtain ⟨rfl, hX1, hM1, hK1⟩ := h_20
          subst X1 M1 K1
          refine g_if_eq C dX11_inhibit_64 (tgt := 69) (by decide) (fun c_64 => absurd c_64 (by decide)) (fun c_64 => ?_)
          refine g_iconst C dX11_inhibit_67 (v := 0) (by decide) ?_
          refine g_iretW C hr hQ (Nat.le_refl _) (Nat.le_refl _) dX11_inhibit_68 ?_
          exact ⟨(by first | with_reducible rfl | (subst er_1 er_13; first | with_reducible rfl | (simp only [sa_ap, si_ap, si_sa, sa_sa, sa_3, sa_4, sa_5, sa_6, sa_7, sa_8, xs_inh, up_us, up_up, xs_b, c_15, c_clj, c_32, c_41, c_52]; done) | (simp [sa_ap, si_ap, si_sa, sa_sa, sa_3, sa_4, sa_5, sa_6, sa_7, sa_8, xs_inh, up_us, up_up, xs_b, c_15, c_clj, c_32, c_41, c_52]; done))), rfl, (by first | with_reducible rfl | (subst er_1 er_13; first | with_reducible rfl | (simp only [sa_ap, si_ap, si_sa, sa_sa, sa_3, sa_4, sa_5, sa_6, sa_7, sa_8, xs_inh, up_us, up_up, xs_b, c_15, c_clj, c_32, c_41, c_52]; done) | (simp [sa_ap, si_ap, si_sa, sa_sa, sa_3, sa_4, sa_5, sa_6, sa_7, sa_8, xs_inh, up_us, up_up, xs_b, c_15, c_clj, c_32, c_41, c_52]; done))), rfl⟩
  · try simp only [sa_ap, si_ap, reduceIte, Nat.reduceEqDiff, up_us, lg_cmp_lt, lg_cmp_gt, lg_cmp_le, lg_cmp_ge] at c_15
    refine g_iconst C dX11_inhibit_18 (v := 1) (by decide) ?_
    refine g_goto C dX11_inhibit_19 (tgt := 23) (by decide) ?_
    refine g_iconst C dX11_inhibit_23 (v := 1) (by decide) ?_
    refine g_callViW C dX11_inhibit_24 (c_X11_fails_1 _ _ _ _ _ _ _ _ _ _ (by rfl) (by decide)) tw1412 tw1414 tp14 tw16 tw1415 (rv_X11 C) rfl ⟨by decide +kernel, by decide +kernel, rfl⟩ ⟨rfl, rfl⟩ (by rw [hR]; decide) (Nat.le_of_ble_eq_true rfl) (by rw [hR]; decide) (fun r_21 X1 M1 K1 h_22 => ?_)
    obtain ⟨rfl, hX1, hM1, hK1⟩ := h_22
    subst X1 M1 K1
    refine g_if_ne C dX11_inhibit_27 (tgt := 67) (by decide) (fun c_27 => ?_) (fun c_27 => absurd c_27 (by decide))
    refine g_iconst C dX11_inhibit_67 (v := 0) (by decide) ?_
    refine g_iretW C hr hQ (Nat.le_refl _) (Nat.le_refl _) dX11_inhibit_68 ?_
    exact ⟨(by first | with_reducible rfl | (subst er_1; first | with_reducible rfl | (simp only [sa_ap, si_ap, si_sa, sa_sa, sa_3, sa_4, sa_5, sa_6, sa_7, sa_8, xs_inh, up_us, up_up, xs_b, c_15]; done) | (simp [sa_ap, si_ap, si_sa, sa_sa, sa_3, sa_4, sa_5, sa_6, sa_7, sa_8, xs_inh, up_us, up_up, xs_b, c_15]; done))), rfl, (by first | with_reducible rfl | (subst er_1; first | with_reducible rfl | (simp only [sa_ap, si_ap, si_sa, sa_sa, sa_3, sa_4, sa_5, sa_6, sa_7, sa_8, xs_inh, up_us, up_up, xs_b, c_15]; done) | (simp [sa_ap, si_ap, si_sa, sa_sa, sa_3, sa_4, sa_5, sa_6, sa_7, sa_8, xs_inh, up_us, up_up, xs_b, c_15]; done))), rfl⟩

set_option maxHeartbeats 400000 in
set_option maxRecDepth 100000 in
/-- setWind.setWind -/
theorem c_X11_setWind (l : Launch) (D : va_G) (cy : Nat → ClassId) (A : Nat → Prop) (ad sad : Nat → Nat) (X M : XF) (K : KF) (p1 : Int32) : Met l yX11_setWind (wsA yX11_setWind cX11_setWind 3 (some .int)) ({ frames := 1, cells := 0, slots := 0, locals := 25 }) (PcW D cy A ad sad X M K [.ref (ad 42), .int p1]) (QiW D cy A ad (fun r X1 M1 K1 => r = (if xs_wind p1 = 0 then M 115 0 else 0) ∧ X1 = X ∧ M1 = (if xs_wind p1 = 0 then si (si M 100 0) 115 p1 else si M 100 (xs_wind p1)) ∧ K1 = K)) 0 0 A := by
  refine met_ofW [(0, .ref (ad 42)), (1, .int p1)] (by decide +kernel) (Nat.le_of_ble_eq_true rfl) rfl ?_
  intro G C hl hR hL hD hcy hA had hsa hr hQ
  subst hD hcy hA had hsa hl
  refine g_aload_n C dX11_setWind_0 0 rfl ?_
  refine g_iconst C dX11_setWind_1 (v := 0) (by decide) ?_
  refine pf_X11_thrown C tw1243 dX11_setWind_2 ?_
  refine g_aload_n C dX11_setWind_5 0 rfl ?_
  refine g_iload_n C dX11_setWind_6 1 rfl ?_
  refine g_i2l C dX11_setWind_7 ?_
  refine g_lconst C dX11_setWind_8 (v := 0) (by decide) ?_
  refine g_ldc2 C dX11_setWind_9 tw1489 ?_
  refine g_callSiW C dX11_setWind_12 (c_X11_in _ _ _ _ _ _ _ _ _ _ _ _) tw1406 tw1407 tw16 tw1408 rfl ⟨by decide +kernel, by decide +kernel, rfl⟩ ⟨rfl, rfl⟩ (by rw [hR]; decide) (Nat.le_of_ble_eq_true rfl) (by rw [hR]; decide) (fun r_1 X1 M1 K1 h_2 => ?_)
  obtain ⟨er_1, hX1, hM1, hK1⟩ := h_2
  subst X1 M1 K1
  try simp only [sa_ap, si_ap, reduceIte, Nat.reduceEqDiff] at er_1
  refine g_if_ne C dX11_setWind_15 (tgt := 22) (by decide) (fun c_15 => ?_) (fun c_15 => ?_)
  · try simp only [sa_ap, si_ap, reduceIte, Nat.reduceEqDiff, up_us, lg_cmp_lt, lg_cmp_gt, lg_cmp_le, lg_cmp_ge] at c_15
    refine g_iconst C dX11_setWind_22 (v := 0) (by decide) ?_
    refine g_iconst C dX11_setWind_23 (v := 1) (by decide) ?_
    refine g_callViW C dX11_setWind_24 (c_X11_fails_0 _ _ _ _ _ _ _ _ _ _ (by rfl)) tw1412 tw1414 tp14 tw16 tw1415 (rv_X11 C) rfl ⟨by decide +kernel, by decide +kernel, rfl⟩ ⟨rfl, rfl⟩ (by rw [hR]; decide) (Nat.le_of_ble_eq_true rfl) (by rw [hR]; decide) (fun r_3 X1 M1 K1 h_4 => ?_)
    obtain ⟨rfl, hX1, hM1, hK1⟩ := h_4
    subst X1 M1 K1
    refine g_if_eq C dX11_setWind_27 (tgt := 32) (by decide) (fun c_27 => ?_) (fun c_27 => absurd (by decide) c_27)
    refine g_aload_n C dX11_setWind_32 0 rfl ?_
    refine gf_X11_wind C tw1275 dX11_setWind_33 ?_
    refine g_namei (fun v_5 ev_5 => ?_)
    refine g_istore_n C dX11_setWind_36 (L' := [(2, .int v_5), (0, .ref (gad G 42)), (1, .int p1)]) rfl (by rw [hL]; decide) ?_
    refine g_aload_n C dX11_setWind_37 1 rfl ?_
    refine g_iload_n C dX11_setWind_38 2 rfl ?_
    refine pf_X11_wind C tw1275 dX11_setWind_39 ?_
    refine g_iload_n C dX11_setWind_42 0 rfl ?_
    refine g_iretW C hr hQ (Nat.le_refl _) (Nat.le_refl _) dX11_setWind_43 ?_
    exact ⟨(by first | with_reducible rfl | (subst er_1 ev_5; first | with_reducible rfl | (simp only [sa_ap, si_ap, si_sa, sa_sa, sa_3, sa_4, sa_5, sa_6, sa_7, sa_8, xs_wind, up_us, up_up, xs_b, c_15]; done) | (simp [sa_ap, si_ap, si_sa, sa_sa, sa_3, sa_4, sa_5, sa_6, sa_7, sa_8, xs_wind, up_us, up_up, xs_b, c_15]; done))), rfl, (by first | with_reducible rfl | (subst er_1 ev_5; first | with_reducible rfl | (simp only [sa_ap, si_ap, si_sa, sa_sa, sa_3, sa_4, sa_5, sa_6, sa_7, sa_8, xs_wind, up_us, up_up, xs_b, c_15]; done) | (simp [sa_ap, si_ap, si_sa, sa_sa, sa_3, sa_4, sa_5, sa_6, sa_7, sa_8, xs_wind, up_us, up_up, xs_b, c_15]; done))), rfl⟩
  · try simp only [sa_ap, si_ap, reduceIte, Nat.reduceEqDiff, up_us, lg_cmp_lt, lg_cmp_gt, lg_cmp_le, lg_cmp_ge] at c_15
    refine g_iconst C dX11_setWind_18 (v := 1) (by decide) ?_
    refine g_goto C dX11_setWind_19 (tgt := 23) (by decide) ?_
    refine g_iconst C dX11_setWind_23 (v := 1) (by decide) ?_
    refine g_callViW C dX11_setWind_24 (c_X11_fails_1 _ _ _ _ _ _ _ _ _ _ (by rfl) (by decide)) tw1412 tw1414 tp14 tw16 tw1415 (rv_X11 C) rfl ⟨by decide +kernel, by decide +kernel, rfl⟩ ⟨rfl, rfl⟩ (by rw [hR]; decide) (Nat.le_of_ble_eq_true rfl) (by rw [hR]; decide) (fun r_6 X1 M1 K1 h_7 => ?_)
    obtain ⟨rfl, hX1, hM1, hK1⟩ := h_7
    subst X1 M1 K1
    refine g_if_eq C dX11_setWind_27 (tgt := 32) (by decide) (fun c_27 => absurd c_27 (by decide)) (fun c_27 => ?_)
    refine g_iconst C dX11_setWind_30 (v := 0) (by decide) ?_
    refine g_iretW C hr hQ (Nat.le_refl _) (Nat.le_refl _) dX11_setWind_31 ?_
    exact ⟨(by first | with_reducible rfl | (subst er_1; first | with_reducible rfl | (simp only [sa_ap, si_ap, si_sa, sa_sa, sa_3, sa_4, sa_5, sa_6, sa_7, sa_8, xs_wind, up_us, up_up, xs_b, c_15]; done) | (simp [sa_ap, si_ap, si_sa, sa_sa, sa_3, sa_4, sa_5, sa_6, sa_7, sa_8, xs_wind, up_us, up_up, xs_b, c_15]; done))), rfl, (by first | with_reducible rfl | (subst er_1; first | with_reducible rfl | (simp only [sa_ap, si_ap, si_sa, sa_sa, sa_3, sa_4, sa_5, sa_6, sa_7, sa_8, xs_wind, up_us, up_up, xs_b, c_15]; done) | (simp [sa_ap, si_ap, si_sa, sa_sa, sa_3, sa_4, sa_5, sa_6, sa_7, sa_8, xs_wind, up_us, up_up, xs_b, c_15]; done))), rfl⟩

set_option maxHeartbeats 400000 in
set_option maxRecDepth 100000 in
/-- near.near -/
theorem c_X11_near (l : Launch) (D : va_G) (cy : Nat → ClassId) (A : Nat → Prop) (ad sad : Nat → Nat) (X M : XF) (K : KF) (zs : Nat) (hzs : M 116 0 = nI zs) (hzk : zs ≤ K.2.1 2) (hk2 : K.2.1 2 < 2 ^ 31) : Met l yX11_near (wsA yX11_near cX11_near 3 (some .int)) ({ frames := 0, cells := 0, slots := 0, locals := 0 }) (PcW D cy A ad sad X M K [.ref (ad 42)]) (QiW D cy A ad (fun r X1 M1 K1 => r = md_near (M 58) (M 101 0) zs ∧ X1 = X ∧ M1 = M ∧ K1 = K)) 0 0 A := by
  refine met_ofW [(0, .ref (ad 42))] (by decide +kernel) (Nat.le_of_ble_eq_true rfl) rfl ?_
  intro G C hl hR hL hD hcy hA had hsa hr hQ
  subst hD hcy hA had hsa hl
  refine g_iconst C dX11_near_0 (v := 0) (by decide) ?_
  refine g_istore_n C dX11_near_1 (L' := [(1, .int 0), (0, .ref (gad G 42))]) rfl (by rw [hL]; decide) ?_
  refine g_iconst C dX11_near_2 (v := 0) (by decide) ?_
  refine g_istore_n C dX11_near_3 (L' := [(2, .int 0), (1, .int 0), (0, .ref (gad G 42))]) rfl (by rw [hL]; decide) ?_
  have lp4 : ∀ (n i : Nat) (a : Int32) (hi : i + n = zs) (ha : a = md_near (M 58) (M 101 0) i), GH G (WX G X M K) [(0, .ref (gad G 42)), (1, .int a), (2, .int (nI i))] 0 0 4 [] := by
    intro n
    induction n with
    | zero =>
      intro i a hi ha
      obtain rfl : zs = i := by omega
      refine g_iload_n C dX11_near_4 2 rfl ?_
      refine g_aload_n C dX11_near_5 0 rfl ?_
      refine gf_X11_strikes C tw1276 dX11_near_6 ?_
      refine g_topi hzs ?_
      refine g_icmp_ge C dX11_near_9 (tgt := 43) (by decide) (fun c_9 => ?_) (fun c_9 => absurd (nI_le (a := zs) (b := zs) (Nat.le_refl _) (by omega)) c_9)
      refine g_iload_n C dX11_near_43 1 rfl ?_
      refine g_iretW C hr hQ (Nat.le_refl _) (Nat.le_refl _) dX11_near_44 ?_
      exact ⟨(by first | with_reducible rfl | (subst ha; first | with_reducible rfl | (simp only [sa_ap, si_ap, si_sa, sa_sa, sa_3, sa_4, sa_5, sa_6, sa_7, sa_8, md_near, up_us, up_up, xs_b]; done) | (simp [sa_ap, si_ap, si_sa, sa_sa, sa_3, sa_4, sa_5, sa_6, sa_7, sa_8, md_near, up_us, up_up, xs_b]; done))), (by first | with_reducible rfl | (subst ha; first | with_reducible rfl | (simp only [sa_ap, si_ap, si_sa, sa_sa, sa_3, sa_4, sa_5, sa_6, sa_7, sa_8, md_near, up_us, up_up, xs_b]; done) | (simp [sa_ap, si_ap, si_sa, sa_sa, sa_3, sa_4, sa_5, sa_6, sa_7, sa_8, md_near, up_us, up_up, xs_b]; done))), rfl, rfl⟩
    | succ n ih =>
      intro i a hi ha
      refine g_iload_n C dX11_near_4 2 rfl ?_
      refine g_aload_n C dX11_near_5 0 rfl ?_
      refine gf_X11_strikes C tw1276 dX11_near_6 ?_
      refine g_topi hzs ?_
      refine g_icmp_ge C dX11_near_9 (tgt := 43) (by decide) (fun c_9 => absurd c_9 (nI_ge (a := i) (b := zs) (by omega) (by omega))) (fun c_9 => ?_)
      refine g_iload_n C dX11_near_12 1 rfl ?_
      refine g_aload_n C dX11_near_13 0 rfl ?_
      refine gf_X11_struckAt C tw1277 dX11_near_14 ?_
      refine g_iload_n C dX11_near_17 2 rfl ?_
      refine al_58 C ⟨by omega, hk2⟩ dX11_near_18 ?_
      refine g_aload_n C dX11_near_19 0 rfl ?_
      refine gf_X11_second C tw1244 dX11_near_20 ?_
      refine g_sipush C dX11_near_23 (v := 600) (by decide) ?_
      refine g_isub C dX11_near_26 ?_
      refine g_icmp_le C dX11_near_27 (tgt := 34) (by decide) (fun c_27 => ?_) (fun c_27 => ?_)
      · try simp only [sa_ap, si_ap, reduceIte, Nat.reduceEqDiff, up_us, lg_cmp_lt, lg_cmp_gt, lg_cmp_le, lg_cmp_ge] at c_27
        refine g_iconst C dX11_near_34 (v := 0) (by decide) ?_
        refine g_iadd C dX11_near_35 ?_
        refine g_namei (fun v_1 ev_1 => ?_)
        refine g_istore_n C dX11_near_36 (L' := [(1, .int v_1), (0, .ref (gad G 42)), (2, .int (nI i))]) rfl (by rw [hL]; decide) ?_
        refine g_iinc C dX11_near_37 2 rfl (v := nI (i + 1)) (nI_1 _) (L' := [(2, .int (nI (i + 1))), (1, .int v_1), (0, .ref (gad G 42))]) rfl (by rw [hL]; decide) ?_
        refine g_goto C dX11_near_40 (tgt := 4) (by decide) ?_
        exact g_sub [2, 1, 0] rfl (ih (i + 1) _ (by omega) (by first | with_reducible rfl | (subst ha ev_1; first | with_reducible rfl | (simp only [sa_ap, si_ap, si_sa, sa_sa, sa_3, sa_4, sa_5, sa_6, sa_7, sa_8, md_near, up_us, up_up, xs_b, c_27]; done) | (simp [sa_ap, si_ap, si_sa, sa_sa, sa_3, sa_4, sa_5, sa_6, sa_7, sa_8, md_near, up_us, up_up, xs_b, c_27]; done))))
      · try simp only [sa_ap, si_ap, reduceIte, Nat.reduceEqDiff, up_us, lg_cmp_lt, lg_cmp_gt, lg_cmp_le, lg_cmp_ge] at c_27
        refine g_iconst C dX11_near_30 (v := 1) (by decide) ?_
        refine g_goto C dX11_near_31 (tgt := 35) (by decide) ?_
        refine g_iadd C dX11_near_35 ?_
        refine g_namei (fun v_2 ev_2 => ?_)
        refine g_istore_n C dX11_near_36 (L' := [(1, .int v_2), (0, .ref (gad G 42)), (2, .int (nI i))]) rfl (by rw [hL]; decide) ?_
        refine g_iinc C dX11_near_37 2 rfl (v := nI (i + 1)) (nI_1 _) (L' := [(2, .int (nI (i + 1))), (1, .int v_2), (0, .ref (gad G 42))]) rfl (by rw [hL]; decide) ?_
        refine g_goto C dX11_near_40 (tgt := 4) (by decide) ?_
        exact g_sub [2, 1, 0] rfl (ih (i + 1) _ (by omega) (by first | with_reducible rfl | (subst ha ev_2; first | with_reducible rfl | (simp only [sa_ap, si_ap, si_sa, sa_sa, sa_3, sa_4, sa_5, sa_6, sa_7, sa_8, md_near, up_us, up_up, xs_b, c_27]; done) | (simp [sa_ap, si_ap, si_sa, sa_sa, sa_3, sa_4, sa_5, sa_6, sa_7, sa_8, md_near, up_us, up_up, xs_b, c_27]; done))))
  exact g_sub [2, 1, 0] rfl (lp4 (zs) 0 _ (by omega) (by first | with_reducible rfl | (first | with_reducible rfl | (simp only [sa_ap, si_ap, si_sa, sa_sa, sa_3, sa_4, sa_5, sa_6, sa_7, sa_8, md_near, up_us, up_up, xs_b]; done) | (simp [sa_ap, si_ap, si_sa, sa_sa, sa_3, sa_4, sa_5, sa_6, sa_7, sa_8, md_near, up_us, up_up, xs_b]; done))))

set_option maxHeartbeats 400000 in
set_option maxRecDepth 100000 in
/-- riskOfAll.riskOfAll -/
theorem c_X11_riskOfAll (l : Launch) (D : va_G) (cy : Nat → ClassId) (A : Nat → Prop) (ad sad : Nat → Nat) (X M : XF) (K : KF) : Met l yX11_riskOfAll (wsA yX11_riskOfAll cX11_riskOfAll 3 (some .int)) ({ frames := 1, cells := 0, slots := 0, locals := 21 }) (PcW D cy A ad sad X M K [.ref (ad 42)]) (QiW D cy A ad (fun r X1 M1 K1 => r = md_risk (M 59) (M 60) ∧ X1 = X ∧ M1 = M ∧ K1 = K)) 0 0 A := by
  refine met_ofW [(0, .ref (ad 42))] (by decide +kernel) (Nat.le_of_ble_eq_true rfl) rfl ?_
  intro G C hl hR hL hD hcy hA had hsa hr hQ
  subst hD hcy hA had hsa hl
  refine g_iconst C dX11_riskOfAll_0 (v := 0) (by decide) ?_
  refine g_istore_n C dX11_riskOfAll_1 (L' := [(1, .int 0), (0, .ref (gad G 42))]) rfl (by rw [hL]; decide) ?_
  refine g_iconst C dX11_riskOfAll_2 (v := 0) (by decide) ?_
  refine g_istore_n C dX11_riskOfAll_3 (L' := [(2, .int 0), (1, .int 0), (0, .ref (gad G 42))]) rfl (by rw [hL]; decide) ?_
  have lp4 : ∀ (n i : Nat) (a : Int32) (hi : i + n = 8) (ha : a = bt_sum (fun i => bt_risk (M 59 i) (M 60 i)) i), GH G (WX G X M K) [(0, .ref (gad G 42)), (1, .int a), (2, .int (nI i))] 0 0 4 [] := by
    intro n
    induction n with
    | zero =>
      intro i a hi ha
      obtain rfl : i = 8 := by omega
      refine g_iload_n C dX11_riskOfAll_4 2 rfl ?_
      refine g_bipush C dX11_riskOfAll_5 (v := 8) (by decide) ?_
      refine g_icmp_ge C dX11_riskOfAll_7 (tgt := 42) (by decide) (fun c_7 => ?_) (fun c_7 => absurd (nI_le (a := 8) (b := 8) (Nat.le_refl _) (by omega)) c_7)
      refine g_iload_n C dX11_riskOfAll_42 1 rfl ?_
      refine g_iretW C hr hQ (Nat.le_refl _) (Nat.le_refl _) dX11_riskOfAll_43 ?_
      exact ⟨(by first | with_reducible rfl | (subst ha; first | with_reducible rfl | (simp only [sa_ap, si_ap, si_sa, sa_sa, sa_3, sa_4, sa_5, sa_6, sa_7, sa_8, md_risk, bt_sum, bt_risk, up_us, up_up, xs_b]; done) | (simp [sa_ap, si_ap, si_sa, sa_sa, sa_3, sa_4, sa_5, sa_6, sa_7, sa_8, md_risk, bt_sum, bt_risk, up_us, up_up, xs_b]; done))), (by first | with_reducible rfl | (subst ha; first | with_reducible rfl | (simp only [sa_ap, si_ap, si_sa, sa_sa, sa_3, sa_4, sa_5, sa_6, sa_7, sa_8, md_risk, bt_sum, bt_risk, up_us, up_up, xs_b]; done) | (simp [sa_ap, si_ap, si_sa, sa_sa, sa_3, sa_4, sa_5, sa_6, sa_7, sa_8, md_risk, bt_sum, bt_risk, up_us, up_up, xs_b]; done))), rfl, rfl⟩
    | succ n ih =>
      intro i a hi ha
      refine g_iload_n C dX11_riskOfAll_4 2 rfl ?_
      refine g_bipush C dX11_riskOfAll_5 (v := 8) (by decide) ?_
      refine g_icmp_ge C dX11_riskOfAll_7 (tgt := 42) (by decide) (fun c_7 => absurd c_7 (nI_ge (a := i) (b := 8) (by omega) (by omega))) (fun c_7 => ?_)
      refine g_iload_n C dX11_riskOfAll_10 1 rfl ?_
      refine g_aload_n C dX11_riskOfAll_11 0 rfl ?_
      refine gf_X11_people C tw1278 dX11_riskOfAll_12 ?_
      refine g_iload_n C dX11_riskOfAll_15 2 rfl ?_
      refine al_59 C (by omega) dX11_riskOfAll_16 ?_
      refine g_iconst C dX11_riskOfAll_17 (v := 0) (by decide) ?_
      refine g_bipush C dX11_riskOfAll_18 (v := 100) (by decide) ?_
      refine g_bipush C dX11_riskOfAll_20 (v := 10) (by decide) ?_
      refine g_aload_n C dX11_riskOfAll_22 0 rfl ?_
      refine gf_X11_distance C tw1279 dX11_riskOfAll_23 ?_
      refine g_iload_n C dX11_riskOfAll_26 2 rfl ?_
      refine al_60 C (by omega) dX11_riskOfAll_27 ?_
      refine g_imul C dX11_riskOfAll_28 ?_
      refine g_isub C dX11_riskOfAll_29 ?_
      refine g_max C dX11_riskOfAll_30 tw1476 (Nat.le_of_ble_eq_true rfl) (by rw [hR]; decide) ?_
      refine g_topi (y := tk_max _ _) rfl ?_
      refine g_imul C dX11_riskOfAll_33 ?_
      refine g_iadd C dX11_riskOfAll_34 ?_
      refine g_namei (fun v_1 ev_1 => ?_)
      refine g_istore_n C dX11_riskOfAll_35 (L' := [(1, .int v_1), (0, .ref (gad G 42)), (2, .int (nI i))]) rfl (by rw [hL]; decide) ?_
      refine g_iinc C dX11_riskOfAll_36 2 rfl (v := nI (i + 1)) (nI_1 _) (L' := [(2, .int (nI (i + 1))), (1, .int v_1), (0, .ref (gad G 42))]) rfl (by rw [hL]; decide) ?_
      refine g_goto C dX11_riskOfAll_39 (tgt := 4) (by decide) ?_
      exact g_sub [2, 1, 0] rfl (ih (i + 1) _ (by omega) (by first | with_reducible rfl | (subst ha ev_1; first | with_reducible rfl | (simp only [sa_ap, si_ap, si_sa, sa_sa, sa_3, sa_4, sa_5, sa_6, sa_7, sa_8, md_risk, bt_sum, bt_risk, up_us, up_up, xs_b]; done) | (simp [sa_ap, si_ap, si_sa, sa_sa, sa_3, sa_4, sa_5, sa_6, sa_7, sa_8, md_risk, bt_sum, bt_risk, up_us, up_up, xs_b]; done))))
  exact g_sub [2, 1, 0] rfl (lp4 (8) 0 _ (by omega) (by first | with_reducible rfl | (first | with_reducible rfl | (simp only [sa_ap, si_ap, si_sa, sa_sa, sa_3, sa_4, sa_5, sa_6, sa_7, sa_8, md_risk, bt_sum, bt_risk, up_us, up_up, xs_b]; done) | (simp [sa_ap, si_ap, si_sa, sa_sa, sa_3, sa_4, sa_5, sa_6, sa_7, sa_8, md_risk, bt_sum, bt_risk, up_us, up_up, xs_b]; done))))

set_option maxHeartbeats 400000 in
set_option maxRecDepth 100000 in
/-- boat.boat -/
theorem c_X11_boat (l : Launch) (D : va_G) (cy : Nat → ClassId) (A : Nat → Prop) (ad sad : Nat → Nat) (X M : XF) (K : KF) (p1 p2 p3 : Int32) : Met l yX11_boat (wsA yX11_boat cX11_boat 4 (some .int)) ({ frames := 2, cells := 0, slots := 0, locals := 43 }) (PcW D cy A ad sad X M K [.ref (ad 42), .int p1, .int p2, .int p3]) (QiW D cy A ad (fun r X1 M1 K1 => r = (if xs_boat p1 p2 p3 = 0 then md_risk (upd (M 59) p1.toNatClampNeg p2) (upd (M 60) p1.toNatClampNeg p3) else 0) ∧ X1 = X ∧ M1 = (if xs_boat p1 p2 p3 = 0 then sa (sa (si M 100 0) 59 (upd (M 59) p1.toNatClampNeg p2)) 60 (upd (M 60) p1.toNatClampNeg p3) else si M 100 (xs_boat p1 p2 p3)) ∧ K1 = K)) 0 0 A := by
  refine met_ofW [(0, .ref (ad 42)), (1, .int p1), (2, .int p2), (3, .int p3)] (by decide +kernel) (Nat.le_of_ble_eq_true rfl) rfl ?_
  intro G C hl hR hL hD hcy hA had hsa hr hQ
  subst hD hcy hA had hsa hl
  refine g_aload_n C dX11_boat_0 0 rfl ?_
  refine g_iconst C dX11_boat_1 (v := 0) (by decide) ?_
  refine pf_X11_thrown C tw1243 dX11_boat_2 ?_
  refine g_aload_n C dX11_boat_5 0 rfl ?_
  refine g_iload_n C dX11_boat_6 1 rfl ?_
  refine g_i2l C dX11_boat_7 ?_
  refine g_lconst C dX11_boat_8 (v := 0) (by decide) ?_
  refine g_ldc2 C dX11_boat_9 tw1503 ?_
  refine g_callSiW C dX11_boat_12 (c_X11_in _ _ _ _ _ _ _ _ _ _ _ _) tw1406 tw1407 tw16 tw1408 rfl ⟨by decide +kernel, by decide +kernel, rfl⟩ ⟨rfl, rfl⟩ (by rw [hR]; decide) (Nat.le_of_ble_eq_true rfl) (by rw [hR]; decide) (fun r_1 X1 M1 K1 h_2 => ?_)
  obtain ⟨er_1, hX1, hM1, hK1⟩ := h_2
  subst X1 M1 K1
  try simp only [sa_ap, si_ap, reduceIte, Nat.reduceEqDiff] at er_1
  refine g_if_eq C dX11_boat_15 (tgt := 42) (by decide) (fun c_15 => ?_) (fun c_15 => ?_)
  · try simp only [sa_ap, si_ap, reduceIte, Nat.reduceEqDiff, up_us, lg_cmp_lt, lg_cmp_gt, lg_cmp_le, lg_cmp_ge] at c_15
    refine g_iconst C dX11_boat_42 (v := 1) (by decide) ?_
    refine g_goto C dX11_boat_43 (tgt := 47) (by decide) ?_
    refine g_iconst C dX11_boat_47 (v := 1) (by decide) ?_
    refine g_callViW C dX11_boat_48 (c_X11_fails_1 _ _ _ _ _ _ _ _ _ _ (by rfl) (by decide)) tw1412 tw1414 tp14 tw16 tw1415 (rv_X11 C) rfl ⟨by decide +kernel, by decide +kernel, rfl⟩ ⟨rfl, rfl⟩ (by rw [hR]; decide) (Nat.le_of_ble_eq_true rfl) (by rw [hR]; decide) (fun r_3 X1 M1 K1 h_4 => ?_)
    obtain ⟨rfl, hX1, hM1, hK1⟩ := h_4
    subst X1 M1 K1
    refine g_if_eq C dX11_boat_51 (tgt := 56) (by decide) (fun c_51 => absurd c_51 (by decide)) (fun c_51 => ?_)
    refine g_iconst C dX11_boat_54 (v := 0) (by decide) ?_
    refine g_iretW C hr hQ (Nat.le_refl _) (Nat.le_refl _) dX11_boat_55 ?_
    exact ⟨(by first | with_reducible rfl | (subst er_1; first | with_reducible rfl | (simp only [sa_ap, si_ap, si_sa, sa_sa, sa_3, sa_4, sa_5, sa_6, sa_7, sa_8, xs_boat, up_us, up_up, xs_b, c_15]; done) | (simp [sa_ap, si_ap, si_sa, sa_sa, sa_3, sa_4, sa_5, sa_6, sa_7, sa_8, xs_boat, up_us, up_up, xs_b, c_15]; done))), rfl, (by first | with_reducible rfl | (subst er_1; first | with_reducible rfl | (simp only [sa_ap, si_ap, si_sa, sa_sa, sa_3, sa_4, sa_5, sa_6, sa_7, sa_8, xs_boat, up_us, up_up, xs_b, c_15]; done) | (simp [sa_ap, si_ap, si_sa, sa_sa, sa_3, sa_4, sa_5, sa_6, sa_7, sa_8, xs_boat, up_us, up_up, xs_b, c_15]; done))), rfl⟩
  · try simp only [sa_ap, si_ap, reduceIte, Nat.reduceEqDiff, up_us, lg_cmp_lt, lg_cmp_gt, lg_cmp_le, lg_cmp_ge] at c_15
    obtain ⟨j, hj, rfl⟩ := lin_ix (p := p1) (b := 7) (n := 8) (by decide) (by decide) (by rw [← er_1]; exact c_15)
    have c_clj : (nI j).toNatClampNeg = j := nI_clamp (by omega)
    refine g_iload_n C dX11_boat_18 2 rfl ?_
    refine g_i2l C dX11_boat_19 ?_
    refine g_lconst C dX11_boat_20 (v := 0) (by decide) ?_
    refine g_ldc2 C dX11_boat_21 tw1504 ?_
    refine g_callSiW C dX11_boat_24 (c_X11_in _ _ _ _ _ _ _ _ _ _ _ _) tw1406 tw1407 tw16 tw1408 rfl ⟨by decide +kernel, by decide +kernel, rfl⟩ ⟨rfl, rfl⟩ (by rw [hR]; decide) (Nat.le_of_ble_eq_true rfl) (by rw [hR]; decide) (fun r_5 X1 M1 K1 h_6 => ?_)
    obtain ⟨er_5, hX1, hM1, hK1⟩ := h_6
    subst X1 M1 K1
    try simp only [sa_ap, si_ap, reduceIte, Nat.reduceEqDiff] at er_5
    refine g_if_eq C dX11_boat_27 (tgt := 42) (by decide) (fun c_27 => ?_) (fun c_27 => ?_)
    · try simp only [sa_ap, si_ap, reduceIte, Nat.reduceEqDiff, up_us, lg_cmp_lt, lg_cmp_gt, lg_cmp_le, lg_cmp_ge] at c_27
      refine g_iconst C dX11_boat_42 (v := 1) (by decide) ?_
      refine g_goto C dX11_boat_43 (tgt := 47) (by decide) ?_
      refine g_iconst C dX11_boat_47 (v := 1) (by decide) ?_
      refine g_callViW C dX11_boat_48 (c_X11_fails_1 _ _ _ _ _ _ _ _ _ _ (by rfl) (by decide)) tw1412 tw1414 tp14 tw16 tw1415 (rv_X11 C) rfl ⟨by decide +kernel, by decide +kernel, rfl⟩ ⟨rfl, rfl⟩ (by rw [hR]; decide) (Nat.le_of_ble_eq_true rfl) (by rw [hR]; decide) (fun r_7 X1 M1 K1 h_8 => ?_)
      obtain ⟨rfl, hX1, hM1, hK1⟩ := h_8
      subst X1 M1 K1
      refine g_if_eq C dX11_boat_51 (tgt := 56) (by decide) (fun c_51 => absurd c_51 (by decide)) (fun c_51 => ?_)
      refine g_iconst C dX11_boat_54 (v := 0) (by decide) ?_
      refine g_iretW C hr hQ (Nat.le_refl _) (Nat.le_refl _) dX11_boat_55 ?_
      exact ⟨(by first | with_reducible rfl | (subst er_1 er_5; first | with_reducible rfl | (simp only [sa_ap, si_ap, si_sa, sa_sa, sa_3, sa_4, sa_5, sa_6, sa_7, sa_8, xs_boat, up_us, up_up, xs_b, c_15, c_clj, c_27]; done) | (simp [sa_ap, si_ap, si_sa, sa_sa, sa_3, sa_4, sa_5, sa_6, sa_7, sa_8, xs_boat, up_us, up_up, xs_b, c_15, c_clj, c_27]; done))), rfl, (by first | with_reducible rfl | (subst er_1 er_5; first | with_reducible rfl | (simp only [sa_ap, si_ap, si_sa, sa_sa, sa_3, sa_4, sa_5, sa_6, sa_7, sa_8, xs_boat, up_us, up_up, xs_b, c_15, c_clj, c_27]; done) | (simp [sa_ap, si_ap, si_sa, sa_sa, sa_3, sa_4, sa_5, sa_6, sa_7, sa_8, xs_boat, up_us, up_up, xs_b, c_15, c_clj, c_27]; done))), rfl⟩
    · try simp only [sa_ap, si_ap, reduceIte, Nat.reduceEqDiff, up_us, lg_cmp_lt, lg_cmp_gt, lg_cmp_le, lg_cmp_ge] at c_27
      refine g_iload_n C dX11_boat_30 3 rfl ?_
      refine g_i2l C dX11_boat_31 ?_
      refine g_lconst C dX11_boat_32 (v := 0) (by decide) ?_
      refine g_ldc2 C dX11_boat_33 tw1494 ?_
      refine g_callSiW C dX11_boat_36 (c_X11_in _ _ _ _ _ _ _ _ _ _ _ _) tw1406 tw1407 tw16 tw1408 rfl ⟨by decide +kernel, by decide +kernel, rfl⟩ ⟨rfl, rfl⟩ (by rw [hR]; decide) (Nat.le_of_ble_eq_true rfl) (by rw [hR]; decide) (fun r_9 X1 M1 K1 h_10 => ?_)
      obtain ⟨er_9, hX1, hM1, hK1⟩ := h_10
      subst X1 M1 K1
      try simp only [sa_ap, si_ap, reduceIte, Nat.reduceEqDiff] at er_9
      refine g_if_ne C dX11_boat_39 (tgt := 46) (by decide) (fun c_39 => ?_) (fun c_39 => ?_)
      · try simp only [sa_ap, si_ap, reduceIte, Nat.reduceEqDiff, up_us, lg_cmp_lt, lg_cmp_gt, lg_cmp_le, lg_cmp_ge] at c_39
        refine g_iconst C dX11_boat_46 (v := 0) (by decide) ?_
        refine g_iconst C dX11_boat_47 (v := 1) (by decide) ?_
        refine g_callViW C dX11_boat_48 (c_X11_fails_0 _ _ _ _ _ _ _ _ _ _ (by rfl)) tw1412 tw1414 tp14 tw16 tw1415 (rv_X11 C) rfl ⟨by decide +kernel, by decide +kernel, rfl⟩ ⟨rfl, rfl⟩ (by rw [hR]; decide) (Nat.le_of_ble_eq_true rfl) (by rw [hR]; decide) (fun r_11 X1 M1 K1 h_12 => ?_)
        obtain ⟨rfl, hX1, hM1, hK1⟩ := h_12
        subst X1 M1 K1
        refine g_if_eq C dX11_boat_51 (tgt := 56) (by decide) (fun c_51 => ?_) (fun c_51 => absurd (by decide) c_51)
        refine g_aload_n C dX11_boat_56 0 rfl ?_
        refine gf_X11_people C tw1278 dX11_boat_57 ?_
        refine g_iload_n C dX11_boat_60 1 rfl ?_
        refine g_iload_n C dX11_boat_61 2 rfl ?_
        refine as_59 C (by omega) dX11_boat_62 ?_
        refine g_aload_n C dX11_boat_63 0 rfl ?_
        refine gf_X11_distance C tw1279 dX11_boat_64 ?_
        refine g_iload_n C dX11_boat_67 1 rfl ?_
        refine g_iload_n C dX11_boat_68 3 rfl ?_
        refine as_60 C (by omega) dX11_boat_69 ?_
        refine g_aload_n C dX11_boat_70 0 rfl ?_
        refine g_callViW C dX11_boat_71 (c_X11_riskOfAll _ _ _ _ _ _ _ _ _ ) tw1505 tw1507 tp22 tw16 tw1508 (rv_X11 C) rfl ⟨by decide +kernel, by decide +kernel, rfl⟩ ⟨rfl, rfl⟩ (by rw [hR]; decide) (Nat.le_of_ble_eq_true rfl) (by rw [hR]; decide) (fun r_13 X1 M1 K1 h_14 => ?_)
        obtain ⟨er_13, hX1, hM1, hK1⟩ := h_14
        subst X1 M1 K1
        try simp only [sa_ap, si_ap, reduceIte, Nat.reduceEqDiff] at er_13
        refine g_iretW C hr hQ (Nat.le_refl _) (Nat.le_refl _) dX11_boat_74 ?_
        exact ⟨(by first | with_reducible rfl | (subst er_1 er_5 er_9 er_13; first | with_reducible rfl | (simp only [sa_ap, si_ap, si_sa, sa_sa, sa_3, sa_4, sa_5, sa_6, sa_7, sa_8, xs_boat, up_us, up_up, xs_b, c_15, c_clj, c_27, c_39]; done) | (simp [sa_ap, si_ap, si_sa, sa_sa, sa_3, sa_4, sa_5, sa_6, sa_7, sa_8, xs_boat, up_us, up_up, xs_b, c_15, c_clj, c_27, c_39]; done))), rfl, (by first | with_reducible rfl | (subst er_1 er_5 er_9 er_13; first | with_reducible rfl | (simp only [sa_ap, si_ap, si_sa, sa_sa, sa_3, sa_4, sa_5, sa_6, sa_7, sa_8, xs_boat, up_us, up_up, xs_b, c_15, c_clj, c_27, c_39]; done) | (simp [sa_ap, si_ap, si_sa, sa_sa, sa_3, sa_4, sa_5, sa_6, sa_7, sa_8, xs_boat, up_us, up_up, xs_b, c_15, c_clj, c_27, c_39]; done))), rfl⟩
      · try simp only [sa_ap, si_ap, reduceIte, Nat.reduceEqDiff, up_us, lg_cmp_lt, lg_cmp_gt, lg_cmp_le, lg_cmp_ge] at c_39
        refine g_iconst C dX11_boat_42 (v := 1) (by decide) ?_
        refine g_goto C dX11_boat_43 (tgt := 47) (by decide) ?_
        refine g_iconst C dX11_boat_47 (v := 1) (by decide) ?_
        refine g_callViW C dX11_boat_48 (c_X11_fails_1 _ _ _ _ _ _ _ _ _ _ (by rfl) (by decide)) tw1412 tw1414 tp14 tw16 tw1415 (rv_X11 C) rfl ⟨by decide +kernel, by decide +kernel, rfl⟩ ⟨rfl, rfl⟩ (by rw [hR]; decide) (Nat.le_of_ble_eq_true rfl) (by rw [hR]; decide) (fun r_15 X1 M1 K1 h_16 => ?_)
        obtain ⟨rfl, hX1, hM1, hK1⟩ := h_16
        subst X1 M1 K1
        refine g_if_eq C dX11_boat_51 (tgt := 56) (by decide) (fun c_51 => absurd c_51 (by decide)) (fun c_51 => ?_)
        refine g_iconst C dX11_boat_54 (v := 0) (by decide) ?_
        refine g_iretW C hr hQ (Nat.le_refl _) (Nat.le_refl _) dX11_boat_55 ?_
        exact ⟨(by first | with_reducible rfl | (subst er_1 er_5 er_9; first | with_reducible rfl | (simp only [sa_ap, si_ap, si_sa, sa_sa, sa_3, sa_4, sa_5, sa_6, sa_7, sa_8, xs_boat, up_us, up_up, xs_b, c_15, c_clj, c_27, c_39]; done) | (simp [sa_ap, si_ap, si_sa, sa_sa, sa_3, sa_4, sa_5, sa_6, sa_7, sa_8, xs_boat, up_us, up_up, xs_b, c_15, c_clj, c_27, c_39]; done))), rfl, (by first | with_reducible rfl | (subst er_1 er_5 er_9; first | with_reducible rfl | (simp only [sa_ap, si_ap, si_sa, sa_sa, sa_3, sa_4, sa_5, sa_6, sa_7, sa_8, xs_boat, up_us, up_up, xs_b, c_15, c_clj, c_27, c_39]; done) | (simp [sa_ap, si_ap, si_sa, sa_sa, sa_3, sa_4, sa_5, sa_6, sa_7, sa_8, xs_boat, up_us, up_up, xs_b, c_15, c_clj, c_27, c_39]; done))), rfl⟩

set_option maxHeartbeats 400000 in
set_option maxRecDepth 100000 in
/-- mayWaive.mayWaive -/
theorem c_X11_mayWaive (l : Launch) (D : va_G) (cy : Nat → ClassId) (A : Nat → Prop) (ad sad : Nat → Nat) (X M : XF) (K : KF) (p1 p2 : Int32) (z : Nat) (hz : M 117 0 = nI z) (hzl : z ≤ 12) : Met l yX11_mayWaive (wsA yX11_mayWaive cX11_mayWaive 4 (some .boolean)) ({ frames := 2, cells := 0, slots := 0, locals := 46 }) (PcW D cy A ad sad X M K [.ref (ad 42), .int p1, .int p2]) (QiW D cy A ad (fun r X1 M1 K1 => r = (if xs_may (M 117 0) p1 p2 = 0 then (if M 71 (6 * p1.toNatClampNeg + p2.toNatClampNeg) = 0 then 1 else 0) else 0) ∧ X1 = X ∧ M1 = (if xs_may (M 117 0) p1 p2 = 0 then sa (si M 100 0) 71 (upd (M 71) (6 * p1.toNatClampNeg + p2.toNatClampNeg) 1) else si M 100 (xs_may (M 117 0) p1 p2)) ∧ K1 = K)) 0 0 A := by
  refine met_ofW [(0, .ref (ad 42)), (1, .int p1), (2, .int p2)] (by decide +kernel) (Nat.le_of_ble_eq_true rfl) rfl ?_
  intro G C hl hR hL hD hcy hA had hsa hr hQ
  subst hD hcy hA had hsa hl
  refine g_aload_n C dX11_mayWaive_0 0 rfl ?_
  refine g_iconst C dX11_mayWaive_1 (v := 0) (by decide) ?_
  refine pf_X11_thrown C tw1243 dX11_mayWaive_2 ?_
  refine g_aload_n C dX11_mayWaive_5 0 rfl ?_
  refine g_aload_n C dX11_mayWaive_6 0 rfl ?_
  refine g_iload_n C dX11_mayWaive_7 1 rfl ?_
  refine g_callViW C dX11_mayWaive_8 (c_X11_noRule _ _ _ _ _ _ _ _ _ _) tw1578 tw1580 tp23 tw16 tw1581 (rv_X11 C) rfl ⟨by decide +kernel, by decide +kernel, rfl⟩ ⟨rfl, rfl⟩ (by rw [hR]; decide) (Nat.le_of_ble_eq_true rfl) (by rw [hR]; decide) (fun r_1 X1 M1 K1 h_2 => ?_)
  obtain ⟨er_1, hX1, hM1, hK1⟩ := h_2
  subst X1 M1 K1
  try simp only [sa_ap, si_ap, reduceIte, Nat.reduceEqDiff] at er_1
  refine g_iconst C dX11_mayWaive_11 (v := 1) (by decide) ?_
  refine g_callViW C dX11_mayWaive_12 (c_X11_fails _ _ _ _ _ _ _ _ _ _ _ (by rfl) (by decide)) tw1412 tw1414 tp14 tw16 tw1415 (rv_X11 C) rfl ⟨by decide +kernel, by decide +kernel, rfl⟩ ⟨rfl, rfl⟩ (by rw [hR]; decide) (Nat.le_of_ble_eq_true rfl) (by rw [hR]; decide) (fun r_3 X1 M1 K1 h_4 => ?_)
  obtain ⟨er_3, hX1, hM1, hK1⟩ := h_4
  subst X1 M1 K1
  try simp only [sa_ap, si_ap, reduceIte, Nat.reduceEqDiff] at er_3
  refine g_if_ne C dX11_mayWaive_15 (tgt := 30) (by decide) (fun c_15 => ?_) (fun c_15 => ?_)
  · try simp only [sa_ap, si_ap, reduceIte, Nat.reduceEqDiff, up_us, lg_cmp_lt, lg_cmp_gt, lg_cmp_le, lg_cmp_ge] at c_15
    have c_b15 := md_r1 er_3 c_15
    rw [if_neg c_b15]
    refine g_iconst C dX11_mayWaive_30 (v := 0) (by decide) ?_
    refine g_zretW C hr (by decide) hQ (Nat.le_refl _) (Nat.le_refl _) dX11_mayWaive_31 ?_
    exact ⟨(by first | with_reducible rfl | (subst er_1 er_3; first | with_reducible rfl | (simp only [sa_ap, si_ap, si_sa, sa_sa, sa_3, sa_4, sa_5, sa_6, sa_7, sa_8, xs_may, up_us, up_up, xs_b, c_15, c_b15]; done) | (simp [sa_ap, si_ap, si_sa, sa_sa, sa_3, sa_4, sa_5, sa_6, sa_7, sa_8, xs_may, up_us, up_up, xs_b, c_15, c_b15]; done))), rfl, (by first | with_reducible rfl | (subst er_1 er_3; first | with_reducible rfl | (simp only [sa_ap, si_ap, si_sa, sa_sa, sa_3, sa_4, sa_5, sa_6, sa_7, sa_8, xs_may, up_us, up_up, xs_b, c_15, c_b15]; done) | (simp [sa_ap, si_ap, si_sa, sa_sa, sa_3, sa_4, sa_5, sa_6, sa_7, sa_8, xs_may, up_us, up_up, xs_b, c_15, c_b15]; done))), rfl⟩
  · try simp only [sa_ap, si_ap, reduceIte, Nat.reduceEqDiff, up_us, lg_cmp_lt, lg_cmp_gt, lg_cmp_le, lg_cmp_ge] at c_15
    have c_b15 := md_r0 er_3 c_15
    rw [if_pos c_b15]
    obtain ⟨j, hj, rfl⟩ := md_no_ix (p := p1) hz (by omega) (by rw [← er_1]; exact c_b15)
    have c_clj : (nI j).toNatClampNeg = j := nI_clamp (by omega)
    refine g_aload_n C dX11_mayWaive_18 0 rfl ?_
    refine g_iload_n C dX11_mayWaive_19 2 rfl ?_
    refine g_callSiW C dX11_mayWaive_20 (c_X11_noConsole _ _ _ _ _ _ _ _ _ _) tw1582 tw1583 tw16 tw1584 rfl ⟨by decide +kernel, by decide +kernel, rfl⟩ ⟨rfl, rfl⟩ (by rw [hR]; decide) (Nat.le_of_ble_eq_true rfl) (by rw [hR]; decide) (fun r_5 X1 M1 K1 h_6 => ?_)
    obtain ⟨er_5, hX1, hM1, hK1⟩ := h_6
    subst X1 M1 K1
    try simp only [sa_ap, si_ap, reduceIte, Nat.reduceEqDiff] at er_5
    refine g_iconst C dX11_mayWaive_23 (v := 2) (by decide) ?_
    refine g_callViW C dX11_mayWaive_24 (c_X11_fails _ _ _ _ _ _ _ _ _ _ _ (by rfl) (by decide)) tw1412 tw1414 tp14 tw16 tw1415 (rv_X11 C) rfl ⟨by decide +kernel, by decide +kernel, rfl⟩ ⟨rfl, rfl⟩ (by rw [hR]; decide) (Nat.le_of_ble_eq_true rfl) (by rw [hR]; decide) (fun r_7 X1 M1 K1 h_8 => ?_)
    obtain ⟨er_7, hX1, hM1, hK1⟩ := h_8
    subst X1 M1 K1
    try simp only [sa_ap, si_ap, reduceIte, Nat.reduceEqDiff] at er_7
    refine g_if_eq C dX11_mayWaive_27 (tgt := 32) (by decide) (fun c_27 => ?_) (fun c_27 => ?_)
    · try simp only [sa_ap, si_ap, reduceIte, Nat.reduceEqDiff, up_us, lg_cmp_lt, lg_cmp_gt, lg_cmp_le, lg_cmp_ge] at c_27
      have c_b27 := md_r0 er_7 c_27
      rw [if_pos c_b27]
      obtain ⟨i, hi, rfl⟩ := md_nc_ix (p := p2) (by rw [← er_5]; exact c_b27)
      have c_cli : (nI i).toNatClampNeg = i := nI_clamp (by omega)
      refine g_aload_n C dX11_mayWaive_32 0 rfl ?_
      refine gf_X11_may C tw1291 dX11_mayWaive_33 ?_
      refine g_bipush C dX11_mayWaive_36 (v := 6) (by decide) ?_
      refine g_iload_n C dX11_mayWaive_38 1 rfl ?_
      refine g_imul C dX11_mayWaive_39 ?_
      refine g_iload_n C dX11_mayWaive_40 2 rfl ?_
      refine g_iadd C dX11_mayWaive_41 ?_
      refine g_topi (y := nI (6 * j + i)) (by rw [show (6 : Int32) = nI 6 from rfl, pk_mul, nI_add]) ?_
      refine al_71 C (by omega) dX11_mayWaive_42 ?_
      refine g_topi rfl ?_
      refine g_istore_n C dX11_mayWaive_43 (L' := [(3, .int (M 71 (6 * j + i))), (0, .ref (gad G 42)), (1, .int (nI j)), (2, .int (nI i))]) rfl (by rw [hL]; decide) ?_
      refine g_aload_n C dX11_mayWaive_44 1 rfl ?_
      refine gf_X11_may C tw1291 dX11_mayWaive_45 ?_
      refine g_bipush C dX11_mayWaive_48 (v := 6) (by decide) ?_
      refine g_iload_n C dX11_mayWaive_50 2 rfl ?_
      refine g_imul C dX11_mayWaive_51 ?_
      refine g_iload_n C dX11_mayWaive_52 3 rfl ?_
      refine g_iadd C dX11_mayWaive_53 ?_
      refine g_topi (y := nI (6 * j + i)) (by rw [show (6 : Int32) = nI 6 from rfl, pk_mul, nI_add]) ?_
      refine g_iconst C dX11_mayWaive_54 (v := 1) (by decide) ?_
      refine as_71 C (by first | exact isBo_0 | exact isBo_1 | assumption) (by omega) dX11_mayWaive_55 ?_
      refine g_iload_n C dX11_mayWaive_56 0 rfl ?_
      refine g_if_ne C dX11_mayWaive_57 (tgt := 64) (by decide) (fun c_57 => ?_) (fun c_57 => ?_)
      · try simp only [sa_ap, si_ap, reduceIte, Nat.reduceEqDiff, up_us, lg_cmp_lt, lg_cmp_gt, lg_cmp_le, lg_cmp_ge] at c_57
        refine g_iconst C dX11_mayWaive_64 (v := 0) (by decide) ?_
        refine g_zretW C hr (by decide) hQ (Nat.le_refl _) (Nat.le_refl _) dX11_mayWaive_65 ?_
        exact ⟨(by first | with_reducible rfl | (subst er_1 er_3 er_5 er_7; first | with_reducible rfl | (simp only [sa_ap, si_ap, si_sa, sa_sa, sa_3, sa_4, sa_5, sa_6, sa_7, sa_8, xs_may, up_us, up_up, xs_b, c_15, c_clj, c_b15, c_27, c_cli, c_b27, c_57]; done) | (simp [sa_ap, si_ap, si_sa, sa_sa, sa_3, sa_4, sa_5, sa_6, sa_7, sa_8, xs_may, up_us, up_up, xs_b, c_15, c_clj, c_b15, c_27, c_cli, c_b27, c_57]; done))), rfl, (by first | with_reducible rfl | (subst er_1 er_3 er_5 er_7; first | with_reducible rfl | (simp only [sa_ap, si_ap, si_sa, sa_sa, sa_3, sa_4, sa_5, sa_6, sa_7, sa_8, xs_may, up_us, up_up, xs_b, c_15, c_clj, c_b15, c_27, c_cli, c_b27, c_57]; done) | (simp [sa_ap, si_ap, si_sa, sa_sa, sa_3, sa_4, sa_5, sa_6, sa_7, sa_8, xs_may, up_us, up_up, xs_b, c_15, c_clj, c_b15, c_27, c_cli, c_b27, c_57]; done))), rfl⟩
      · try simp only [sa_ap, si_ap, reduceIte, Nat.reduceEqDiff, up_us, lg_cmp_lt, lg_cmp_gt, lg_cmp_le, lg_cmp_ge] at c_57
        refine g_iconst C dX11_mayWaive_60 (v := 1) (by decide) ?_
        refine g_goto C dX11_mayWaive_61 (tgt := 65) (by decide) ?_
        refine g_zretW C hr (by decide) hQ (Nat.le_refl _) (Nat.le_refl _) dX11_mayWaive_65 ?_
        exact ⟨(by first | with_reducible rfl | (subst er_1 er_3 er_5 er_7; first | with_reducible rfl | (simp only [sa_ap, si_ap, si_sa, sa_sa, sa_3, sa_4, sa_5, sa_6, sa_7, sa_8, xs_may, up_us, up_up, xs_b, c_15, c_clj, c_b15, c_27, c_cli, c_b27, c_57]; done) | (simp [sa_ap, si_ap, si_sa, sa_sa, sa_3, sa_4, sa_5, sa_6, sa_7, sa_8, xs_may, up_us, up_up, xs_b, c_15, c_clj, c_b15, c_27, c_cli, c_b27, c_57]; done))), rfl, (by first | with_reducible rfl | (subst er_1 er_3 er_5 er_7; first | with_reducible rfl | (simp only [sa_ap, si_ap, si_sa, sa_sa, sa_3, sa_4, sa_5, sa_6, sa_7, sa_8, xs_may, up_us, up_up, xs_b, c_15, c_clj, c_b15, c_27, c_cli, c_b27, c_57]; done) | (simp [sa_ap, si_ap, si_sa, sa_sa, sa_3, sa_4, sa_5, sa_6, sa_7, sa_8, xs_may, up_us, up_up, xs_b, c_15, c_clj, c_b15, c_27, c_cli, c_b27, c_57]; done))), rfl⟩
    · try simp only [sa_ap, si_ap, reduceIte, Nat.reduceEqDiff, up_us, lg_cmp_lt, lg_cmp_gt, lg_cmp_le, lg_cmp_ge] at c_27
      have c_b27 := md_r1 er_7 c_27
      rw [if_neg c_b27]
      refine g_iconst C dX11_mayWaive_30 (v := 0) (by decide) ?_
      refine g_zretW C hr (by decide) hQ (Nat.le_refl _) (Nat.le_refl _) dX11_mayWaive_31 ?_
      exact ⟨(by first | with_reducible rfl | (subst er_1 er_3 er_5 er_7; first | with_reducible rfl | (simp only [sa_ap, si_ap, si_sa, sa_sa, sa_3, sa_4, sa_5, sa_6, sa_7, sa_8, xs_may, up_us, up_up, xs_b, c_15, c_clj, c_b15, c_27, c_b27]; done) | (simp [sa_ap, si_ap, si_sa, sa_sa, sa_3, sa_4, sa_5, sa_6, sa_7, sa_8, xs_may, up_us, up_up, xs_b, c_15, c_clj, c_b15, c_27, c_b27]; done))), rfl, (by first | with_reducible rfl | (subst er_1 er_3 er_5 er_7; first | with_reducible rfl | (simp only [sa_ap, si_ap, si_sa, sa_sa, sa_3, sa_4, sa_5, sa_6, sa_7, sa_8, xs_may, up_us, up_up, xs_b, c_15, c_clj, c_b15, c_27, c_b27]; done) | (simp [sa_ap, si_ap, si_sa, sa_sa, sa_3, sa_4, sa_5, sa_6, sa_7, sa_8, xs_may, up_us, up_up, xs_b, c_15, c_clj, c_b15, c_27, c_b27]; done))), rfl⟩

set_option maxHeartbeats 400000 in
set_option maxRecDepth 100000 in
/-- isWaivedNow.isWaivedNow -/
theorem c_X11_isWaivedNow (l : Launch) (D : va_G) (cy : Nat → ClassId) (A : Nat → Prop) (ad sad : Nat → Nat) (X M : XF) (K : KF) (j : Nat) (hj : j < 12) : Met l yX11_isWaivedNow (wsA yX11_isWaivedNow cX11_isWaivedNow 2 (some .boolean)) ({ frames := 0, cells := 0, slots := 0, locals := 0 }) (PcW D cy A ad sad X M K [.ref (ad 42), .int (nI j)]) (QiW D cy A ad (fun r X1 M1 K1 => r = md_iw (M 69 j) (M 103 0) (M 70 j) (M 104 0) ∧ X1 = X ∧ M1 = M ∧ K1 = K)) 0 0 A := by
  refine met_ofW [(0, .ref (ad 42)), (1, .int (nI j))] (by decide +kernel) (Nat.le_of_ble_eq_true rfl) rfl ?_
  intro G C hl hR hL hD hcy hA had hsa hr hQ
  subst hD hcy hA had hsa hl
  refine g_aload_n C dX11_isWaivedNow_0 0 rfl ?_
  refine gf_X11_isWaived C tw1289 dX11_isWaivedNow_1 ?_
  refine g_iload_n C dX11_isWaivedNow_4 1 rfl ?_
  refine al_69 C (by omega) dX11_isWaivedNow_5 ?_
  refine g_if_eq C dX11_isWaivedNow_6 (tgt := 33) (by decide) (fun c_6 => ?_) (fun c_6 => ?_)
  · try simp only [sa_ap, si_ap, reduceIte, Nat.reduceEqDiff, up_us, lg_cmp_lt, lg_cmp_gt, lg_cmp_le, lg_cmp_ge] at c_6
    refine g_iconst C dX11_isWaivedNow_33 (v := 0) (by decide) ?_
    refine g_zretW C hr (by decide) hQ (Nat.le_refl _) (Nat.le_refl _) dX11_isWaivedNow_34 ?_
    exact ⟨(by first | with_reducible rfl | (first | with_reducible rfl | (simp only [sa_ap, si_ap, si_sa, sa_sa, sa_3, sa_4, sa_5, sa_6, sa_7, sa_8, md_iw, up_us, up_up, xs_b, c_6]; done) | (simp [sa_ap, si_ap, si_sa, sa_sa, sa_3, sa_4, sa_5, sa_6, sa_7, sa_8, md_iw, up_us, up_up, xs_b, c_6]; done))), (by first | with_reducible rfl | (first | with_reducible rfl | (simp only [sa_ap, si_ap, si_sa, sa_sa, sa_3, sa_4, sa_5, sa_6, sa_7, sa_8, md_iw, up_us, up_up, xs_b, c_6]; done) | (simp [sa_ap, si_ap, si_sa, sa_sa, sa_3, sa_4, sa_5, sa_6, sa_7, sa_8, md_iw, up_us, up_up, xs_b, c_6]; done))), rfl, rfl⟩
  · try simp only [sa_ap, si_ap, reduceIte, Nat.reduceEqDiff, up_us, lg_cmp_lt, lg_cmp_gt, lg_cmp_le, lg_cmp_ge] at c_6
    refine g_aload_n C dX11_isWaivedNow_9 0 rfl ?_
    refine gf_X11_wasBegun C tw1246 dX11_isWaivedNow_10 ?_
    refine g_if_eq C dX11_isWaivedNow_13 (tgt := 33) (by decide) (fun c_13 => ?_) (fun c_13 => ?_)
    · try simp only [sa_ap, si_ap, reduceIte, Nat.reduceEqDiff, up_us, lg_cmp_lt, lg_cmp_gt, lg_cmp_le, lg_cmp_ge] at c_13
      refine g_iconst C dX11_isWaivedNow_33 (v := 0) (by decide) ?_
      refine g_zretW C hr (by decide) hQ (Nat.le_refl _) (Nat.le_refl _) dX11_isWaivedNow_34 ?_
      exact ⟨(by first | with_reducible rfl | (first | with_reducible rfl | (simp only [sa_ap, si_ap, si_sa, sa_sa, sa_3, sa_4, sa_5, sa_6, sa_7, sa_8, md_iw, up_us, up_up, xs_b, c_6, c_13]; done) | (simp [sa_ap, si_ap, si_sa, sa_sa, sa_3, sa_4, sa_5, sa_6, sa_7, sa_8, md_iw, up_us, up_up, xs_b, c_6, c_13]; done))), (by first | with_reducible rfl | (first | with_reducible rfl | (simp only [sa_ap, si_ap, si_sa, sa_sa, sa_3, sa_4, sa_5, sa_6, sa_7, sa_8, md_iw, up_us, up_up, xs_b, c_6, c_13]; done) | (simp [sa_ap, si_ap, si_sa, sa_sa, sa_3, sa_4, sa_5, sa_6, sa_7, sa_8, md_iw, up_us, up_up, xs_b, c_6, c_13]; done))), rfl, rfl⟩
    · try simp only [sa_ap, si_ap, reduceIte, Nat.reduceEqDiff, up_us, lg_cmp_lt, lg_cmp_gt, lg_cmp_le, lg_cmp_ge] at c_13
      refine g_aload_n C dX11_isWaivedNow_16 0 rfl ?_
      refine gf_X11_count C tw1247 dX11_isWaivedNow_17 ?_
      refine g_aload_n C dX11_isWaivedNow_20 0 rfl ?_
      refine gf_X11_waivedTo C tw1290 dX11_isWaivedNow_21 ?_
      refine g_iload_n C dX11_isWaivedNow_24 1 rfl ?_
      refine al_70 C (by omega) dX11_isWaivedNow_25 ?_
      refine g_icmp_gt C dX11_isWaivedNow_26 (tgt := 33) (by decide) (fun c_26 => ?_) (fun c_26 => ?_)
      · try simp only [sa_ap, si_ap, reduceIte, Nat.reduceEqDiff, up_us, lg_cmp_lt, lg_cmp_gt, lg_cmp_le, lg_cmp_ge] at c_26
        refine g_iconst C dX11_isWaivedNow_33 (v := 0) (by decide) ?_
        refine g_zretW C hr (by decide) hQ (Nat.le_refl _) (Nat.le_refl _) dX11_isWaivedNow_34 ?_
        exact ⟨(by first | with_reducible rfl | (first | with_reducible rfl | (simp only [sa_ap, si_ap, si_sa, sa_sa, sa_3, sa_4, sa_5, sa_6, sa_7, sa_8, md_iw, up_us, up_up, xs_b, c_6, c_13, c_26]; done) | (simp [sa_ap, si_ap, si_sa, sa_sa, sa_3, sa_4, sa_5, sa_6, sa_7, sa_8, md_iw, up_us, up_up, xs_b, c_6, c_13, c_26]; done))), (by first | with_reducible rfl | (first | with_reducible rfl | (simp only [sa_ap, si_ap, si_sa, sa_sa, sa_3, sa_4, sa_5, sa_6, sa_7, sa_8, md_iw, up_us, up_up, xs_b, c_6, c_13, c_26]; done) | (simp [sa_ap, si_ap, si_sa, sa_sa, sa_3, sa_4, sa_5, sa_6, sa_7, sa_8, md_iw, up_us, up_up, xs_b, c_6, c_13, c_26]; done))), rfl, rfl⟩
      · try simp only [sa_ap, si_ap, reduceIte, Nat.reduceEqDiff, up_us, lg_cmp_lt, lg_cmp_gt, lg_cmp_le, lg_cmp_ge] at c_26
        refine g_iconst C dX11_isWaivedNow_29 (v := 1) (by decide) ?_
        refine g_goto C dX11_isWaivedNow_30 (tgt := 34) (by decide) ?_
        refine g_zretW C hr (by decide) hQ (Nat.le_refl _) (Nat.le_refl _) dX11_isWaivedNow_34 ?_
        exact ⟨(by first | with_reducible rfl | (first | with_reducible rfl | (simp only [sa_ap, si_ap, si_sa, sa_sa, sa_3, sa_4, sa_5, sa_6, sa_7, sa_8, md_iw, up_us, up_up, xs_b, c_6, c_13, c_26]; done) | (simp [sa_ap, si_ap, si_sa, sa_sa, sa_3, sa_4, sa_5, sa_6, sa_7, sa_8, md_iw, up_us, up_up, xs_b, c_6, c_13, c_26]; done))), (by first | with_reducible rfl | (first | with_reducible rfl | (simp only [sa_ap, si_ap, si_sa, sa_sa, sa_3, sa_4, sa_5, sa_6, sa_7, sa_8, md_iw, up_us, up_up, xs_b, c_6, c_13, c_26]; done) | (simp [sa_ap, si_ap, si_sa, sa_sa, sa_3, sa_4, sa_5, sa_6, sa_7, sa_8, md_iw, up_us, up_up, xs_b, c_6, c_13, c_26]; done))), rfl, rfl⟩

set_option maxHeartbeats 400000 in
set_option maxRecDepth 100000 in
/-- waive.waive -/
theorem c_X11_waive (l : Launch) (D : va_G) (cy : Nat → ClassId) (A : Nat → Prop) (ad sad : Nat → Nat) (X M : XF) (K : KF) (p1 p2 p3 : Int32) (z : Nat) (hz : M 117 0 = nI z) (hzl : z ≤ 12) : Met l yX11_waive (wsA yX11_waive cX11_waive 5 (some .boolean)) ({ frames := 2, cells := 0, slots := 0, locals := 46 }) (PcW D cy A ad sad X M K [.ref (ad 42), .int p1, .int p2, .int p3]) (QiW D cy A ad (fun r X1 M1 K1 => r = (if xs_waive (M 71) (M 117 0) p1 p2 p3 = 0 then md_iw (M 69 p1.toNatClampNeg) (M 103 0) (M 70 p1.toNatClampNeg) (M 104 0) else 0) ∧ X1 = X ∧ M1 = (if xs_waive (M 71) (M 117 0) p1 p2 p3 = 0 then sa (sa (si M 100 0) 69 (upd (M 69) p1.toNatClampNeg 1)) 70 (upd (M 70) p1.toNatClampNeg p3) else si M 100 (xs_waive (M 71) (M 117 0) p1 p2 p3)) ∧ K1 = K)) 0 0 A := by
  refine met_ofW [(0, .ref (ad 42)), (1, .int p1), (2, .int p2), (3, .int p3)] (by decide +kernel) (Nat.le_of_ble_eq_true rfl) rfl ?_
  intro G C hl hR hL hD hcy hA had hsa hr hQ
  subst hD hcy hA had hsa hl
  refine g_aload_n C dX11_waive_0 0 rfl ?_
  refine g_iconst C dX11_waive_1 (v := 0) (by decide) ?_
  refine pf_X11_thrown C tw1243 dX11_waive_2 ?_
  refine g_aload_n C dX11_waive_5 0 rfl ?_
  refine g_aload_n C dX11_waive_6 0 rfl ?_
  refine g_iload_n C dX11_waive_7 1 rfl ?_
  refine g_callViW C dX11_waive_8 (c_X11_noRule _ _ _ _ _ _ _ _ _ _) tw1578 tw1580 tp23 tw16 tw1581 (rv_X11 C) rfl ⟨by decide +kernel, by decide +kernel, rfl⟩ ⟨rfl, rfl⟩ (by rw [hR]; decide) (Nat.le_of_ble_eq_true rfl) (by rw [hR]; decide) (fun r_1 X1 M1 K1 h_2 => ?_)
  obtain ⟨er_1, hX1, hM1, hK1⟩ := h_2
  subst X1 M1 K1
  try simp only [sa_ap, si_ap, reduceIte, Nat.reduceEqDiff] at er_1
  refine g_iconst C dX11_waive_11 (v := 1) (by decide) ?_
  refine g_callViW C dX11_waive_12 (c_X11_fails _ _ _ _ _ _ _ _ _ _ _ (by rfl) (by decide)) tw1412 tw1414 tp14 tw16 tw1415 (rv_X11 C) rfl ⟨by decide +kernel, by decide +kernel, rfl⟩ ⟨rfl, rfl⟩ (by rw [hR]; decide) (Nat.le_of_ble_eq_true rfl) (by rw [hR]; decide) (fun r_3 X1 M1 K1 h_4 => ?_)
  obtain ⟨er_3, hX1, hM1, hK1⟩ := h_4
  subst X1 M1 K1
  try simp only [sa_ap, si_ap, reduceIte, Nat.reduceEqDiff] at er_3
  refine g_if_ne C dX11_waive_15 (tgt := 77) (by decide) (fun c_15 => ?_) (fun c_15 => ?_)
  · try simp only [sa_ap, si_ap, reduceIte, Nat.reduceEqDiff, up_us, lg_cmp_lt, lg_cmp_gt, lg_cmp_le, lg_cmp_ge] at c_15
    have c_b15 := md_r1 er_3 c_15
    rw [if_neg c_b15]
    refine g_iconst C dX11_waive_77 (v := 0) (by decide) ?_
    refine g_zretW C hr (by decide) hQ (Nat.le_refl _) (Nat.le_refl _) dX11_waive_78 ?_
    exact ⟨(by first | with_reducible rfl | (subst er_1 er_3; first | with_reducible rfl | (simp only [sa_ap, si_ap, si_sa, sa_sa, sa_3, sa_4, sa_5, sa_6, sa_7, sa_8, xs_waive, up_us, up_up, xs_b, c_15, c_b15]; done) | (simp [sa_ap, si_ap, si_sa, sa_sa, sa_3, sa_4, sa_5, sa_6, sa_7, sa_8, xs_waive, up_us, up_up, xs_b, c_15, c_b15]; done))), rfl, (by first | with_reducible rfl | (subst er_1 er_3; first | with_reducible rfl | (simp only [sa_ap, si_ap, si_sa, sa_sa, sa_3, sa_4, sa_5, sa_6, sa_7, sa_8, xs_waive, up_us, up_up, xs_b, c_15, c_b15]; done) | (simp [sa_ap, si_ap, si_sa, sa_sa, sa_3, sa_4, sa_5, sa_6, sa_7, sa_8, xs_waive, up_us, up_up, xs_b, c_15, c_b15]; done))), rfl⟩
  · try simp only [sa_ap, si_ap, reduceIte, Nat.reduceEqDiff, up_us, lg_cmp_lt, lg_cmp_gt, lg_cmp_le, lg_cmp_ge] at c_15
    have c_b15 := md_r0 er_3 c_15
    rw [if_pos c_b15]
    obtain ⟨j, hj, rfl⟩ := md_no_ix (p := p1) hz (by omega) (by rw [← er_1]; exact c_b15)
    have c_clj : (nI j).toNatClampNeg = j := nI_clamp (by omega)
    refine g_aload_n C dX11_waive_18 0 rfl ?_
    refine g_iload_n C dX11_waive_19 2 rfl ?_
    refine g_callSiW C dX11_waive_20 (c_X11_noConsole _ _ _ _ _ _ _ _ _ _) tw1582 tw1583 tw16 tw1584 rfl ⟨by decide +kernel, by decide +kernel, rfl⟩ ⟨rfl, rfl⟩ (by rw [hR]; decide) (Nat.le_of_ble_eq_true rfl) (by rw [hR]; decide) (fun r_5 X1 M1 K1 h_6 => ?_)
    obtain ⟨er_5, hX1, hM1, hK1⟩ := h_6
    subst X1 M1 K1
    try simp only [sa_ap, si_ap, reduceIte, Nat.reduceEqDiff] at er_5
    refine g_if_ne C dX11_waive_23 (tgt := 38) (by decide) (fun c_23 => ?_) (fun c_23 => ?_)
    · try simp only [sa_ap, si_ap, reduceIte, Nat.reduceEqDiff, up_us, lg_cmp_lt, lg_cmp_gt, lg_cmp_le, lg_cmp_ge] at c_23
      refine g_iconst C dX11_waive_38 (v := 1) (by decide) ?_
      refine g_goto C dX11_waive_39 (tgt := 43) (by decide) ?_
      refine g_iconst C dX11_waive_43 (v := 2) (by decide) ?_
      refine g_callViW C dX11_waive_44 (c_X11_fails_1 _ _ _ _ _ _ _ _ _ _ (by rfl) (by decide)) tw1412 tw1414 tp14 tw16 tw1415 (rv_X11 C) rfl ⟨by decide +kernel, by decide +kernel, rfl⟩ ⟨rfl, rfl⟩ (by rw [hR]; decide) (Nat.le_of_ble_eq_true rfl) (by rw [hR]; decide) (fun r_7 X1 M1 K1 h_8 => ?_)
      obtain ⟨rfl, hX1, hM1, hK1⟩ := h_8
      subst X1 M1 K1
      refine g_if_ne C dX11_waive_47 (tgt := 77) (by decide) (fun c_47 => ?_) (fun c_47 => absurd c_47 (by decide))
      refine g_iconst C dX11_waive_77 (v := 0) (by decide) ?_
      refine g_zretW C hr (by decide) hQ (Nat.le_refl _) (Nat.le_refl _) dX11_waive_78 ?_
      exact ⟨(by first | with_reducible rfl | (subst er_1 er_3 er_5; first | with_reducible rfl | (simp only [sa_ap, si_ap, si_sa, sa_sa, sa_3, sa_4, sa_5, sa_6, sa_7, sa_8, xs_waive, up_us, up_up, xs_b, c_15, c_clj, c_b15, c_23]; done) | (simp [sa_ap, si_ap, si_sa, sa_sa, sa_3, sa_4, sa_5, sa_6, sa_7, sa_8, xs_waive, up_us, up_up, xs_b, c_15, c_clj, c_b15, c_23]; done))), rfl, (by first | with_reducible rfl | (subst er_1 er_3 er_5; first | with_reducible rfl | (simp only [sa_ap, si_ap, si_sa, sa_sa, sa_3, sa_4, sa_5, sa_6, sa_7, sa_8, xs_waive, up_us, up_up, xs_b, c_15, c_clj, c_b15, c_23]; done) | (simp [sa_ap, si_ap, si_sa, sa_sa, sa_3, sa_4, sa_5, sa_6, sa_7, sa_8, xs_waive, up_us, up_up, xs_b, c_15, c_clj, c_b15, c_23]; done))), rfl⟩
    · try simp only [sa_ap, si_ap, reduceIte, Nat.reduceEqDiff, up_us, lg_cmp_lt, lg_cmp_gt, lg_cmp_le, lg_cmp_ge] at c_23
      obtain ⟨i, hi, rfl⟩ := md_nc_ix (p := p2) (by rw [← er_5]; exact c_23)
      have c_cli : (nI i).toNatClampNeg = i := nI_clamp (by omega)
      refine g_iload_n C dX11_waive_26 3 rfl ?_
      refine g_i2l C dX11_waive_27 ?_
      refine g_ldc2 C dX11_waive_28 tw1433 ?_
      refine g_lconst C dX11_waive_31 (v := 0) (by decide) ?_
      refine g_callSiW C dX11_waive_32 (c_X11_in _ _ _ _ _ _ _ _ _ _ _ _) tw1406 tw1407 tw16 tw1408 rfl ⟨by decide +kernel, by decide +kernel, rfl⟩ ⟨rfl, rfl⟩ (by rw [hR]; decide) (Nat.le_of_ble_eq_true rfl) (by rw [hR]; decide) (fun r_9 X1 M1 K1 h_10 => ?_)
      obtain ⟨er_9, hX1, hM1, hK1⟩ := h_10
      subst X1 M1 K1
      try simp only [sa_ap, si_ap, reduceIte, Nat.reduceEqDiff] at er_9
      refine g_if_ne C dX11_waive_35 (tgt := 42) (by decide) (fun c_35 => ?_) (fun c_35 => ?_)
      · try simp only [sa_ap, si_ap, reduceIte, Nat.reduceEqDiff, up_us, lg_cmp_lt, lg_cmp_gt, lg_cmp_le, lg_cmp_ge] at c_35
        refine g_iconst C dX11_waive_42 (v := 0) (by decide) ?_
        refine g_iconst C dX11_waive_43 (v := 2) (by decide) ?_
        refine g_callViW C dX11_waive_44 (c_X11_fails_0 _ _ _ _ _ _ _ _ _ _ (by rfl)) tw1412 tw1414 tp14 tw16 tw1415 (rv_X11 C) rfl ⟨by decide +kernel, by decide +kernel, rfl⟩ ⟨rfl, rfl⟩ (by rw [hR]; decide) (Nat.le_of_ble_eq_true rfl) (by rw [hR]; decide) (fun r_11 X1 M1 K1 h_12 => ?_)
        obtain ⟨rfl, hX1, hM1, hK1⟩ := h_12
        subst X1 M1 K1
        refine g_if_ne C dX11_waive_47 (tgt := 77) (by decide) (fun c_47 => absurd c_47 (by decide)) (fun c_47 => ?_)
        refine g_aload_n C dX11_waive_50 0 rfl ?_
        refine g_aload_n C dX11_waive_51 0 rfl ?_
        refine gf_X11_may C tw1291 dX11_waive_52 ?_
        refine g_bipush C dX11_waive_55 (v := 6) (by decide) ?_
        refine g_iload_n C dX11_waive_57 1 rfl ?_
        refine g_imul C dX11_waive_58 ?_
        refine g_iload_n C dX11_waive_59 2 rfl ?_
        refine g_iadd C dX11_waive_60 ?_
        refine g_topi (y := nI (6 * j + i)) (by rw [show (6 : Int32) = nI 6 from rfl, pk_mul, nI_add]) ?_
        refine al_71 C (by omega) dX11_waive_61 ?_
        refine g_if_ne C dX11_waive_62 (tgt := 69) (by decide) (fun c_62 => ?_) (fun c_62 => ?_)
        · try simp only [sa_ap, si_ap, reduceIte, Nat.reduceEqDiff, up_us, lg_cmp_lt, lg_cmp_gt, lg_cmp_le, lg_cmp_ge] at c_62
          refine g_iconst C dX11_waive_69 (v := 0) (by decide) ?_
          refine g_iconst C dX11_waive_70 (v := 3) (by decide) ?_
          refine g_callViW C dX11_waive_71 (c_X11_fails_0 _ _ _ _ _ _ _ _ _ _ (by rfl)) tw1412 tw1414 tp14 tw16 tw1415 (rv_X11 C) rfl ⟨by decide +kernel, by decide +kernel, rfl⟩ ⟨rfl, rfl⟩ (by rw [hR]; decide) (Nat.le_of_ble_eq_true rfl) (by rw [hR]; decide) (fun r_13 X1 M1 K1 h_14 => ?_)
          obtain ⟨rfl, hX1, hM1, hK1⟩ := h_14
          subst X1 M1 K1
          refine g_if_eq C dX11_waive_74 (tgt := 79) (by decide) (fun c_74 => ?_) (fun c_74 => absurd (by decide) c_74)
          refine g_aload_n C dX11_waive_79 0 rfl ?_
          refine g_iload_n C dX11_waive_80 1 rfl ?_
          refine g_callViW C dX11_waive_81 (c_X11_isWaivedNow _ _ _ _ _ _ _ _ _ j (by omega)) tw1589 tw1591 tp24 tw16 tw1592 (rv_X11 C) rfl ⟨by decide +kernel, by decide +kernel, rfl⟩ ⟨rfl, rfl⟩ (by rw [hR]; decide) (Nat.le_of_ble_eq_true rfl) (by rw [hR]; decide) (fun r_15 X1 M1 K1 h_16 => ?_)
          obtain ⟨er_15, hX1, hM1, hK1⟩ := h_16
          subst X1 M1 K1
          try simp only [sa_ap, si_ap, reduceIte, Nat.reduceEqDiff] at er_15
          refine g_istore C dX11_waive_84 (L' := [(4, .int r_15), (0, .ref (gad G 42)), (1, .int (nI j)), (2, .int (nI i)), (3, .int p3)]) rfl (by rw [hL]; decide) ?_
          refine g_aload_n C dX11_waive_86 1 rfl ?_
          refine gf_X11_isWaived C tw1289 dX11_waive_87 ?_
          refine g_iload_n C dX11_waive_90 2 rfl ?_
          refine g_iconst C dX11_waive_91 (v := 1) (by decide) ?_
          refine as_69 C (by first | exact isBo_0 | exact isBo_1 | assumption) (by omega) dX11_waive_92 ?_
          refine g_aload_n C dX11_waive_93 1 rfl ?_
          refine gf_X11_waivedTo C tw1290 dX11_waive_94 ?_
          refine g_iload_n C dX11_waive_97 2 rfl ?_
          refine g_iload_n C dX11_waive_98 4 rfl ?_
          refine as_70 C (by omega) dX11_waive_99 ?_
          refine g_iload C dX11_waive_100 0 rfl ?_
          refine g_zretW C hr (by subst er_15; exact (isBo.na (md_iw_bo _ _ _ _)).1) hQ (Nat.le_refl _) (Nat.le_refl _) dX11_waive_102 ?_
          exact ⟨(by first | with_reducible rfl | (subst er_1 er_3 er_5 er_9 er_15; first | with_reducible rfl | (simp only [sa_ap, si_ap, si_sa, sa_sa, sa_3, sa_4, sa_5, sa_6, sa_7, sa_8, xs_waive, up_us, up_up, xs_b, c_15, c_clj, c_b15, c_23, c_cli, c_35, c_62]; done) | (simp [sa_ap, si_ap, si_sa, sa_sa, sa_3, sa_4, sa_5, sa_6, sa_7, sa_8, xs_waive, up_us, up_up, xs_b, c_15, c_clj, c_b15, c_23, c_cli, c_35, c_62]; done))), rfl, (by first | with_reducible rfl | (subst er_1 er_3 er_5 er_9 er_15; first | with_reducible rfl | (simp only [sa_ap, si_ap, si_sa, sa_sa, sa_3, sa_4, sa_5, sa_6, sa_7, sa_8, xs_waive, up_us, up_up, xs_b, c_15, c_clj, c_b15, c_23, c_cli, c_35, c_62]; done) | (simp [sa_ap, si_ap, si_sa, sa_sa, sa_3, sa_4, sa_5, sa_6, sa_7, sa_8, xs_waive, up_us, up_up, xs_b, c_15, c_clj, c_b15, c_23, c_cli, c_35, c_62]; done))), rfl⟩
        · try simp only [sa_ap, si_ap, reduceIte, Nat.reduceEqDiff, up_us, lg_cmp_lt, lg_cmp_gt, lg_cmp_le, lg_cmp_ge] at c_62
          refine g_iconst C dX11_waive_65 (v := 1) (by decide) ?_
          refine g_goto C dX11_waive_66 (tgt := 70) (by decide) ?_
          refine g_iconst C dX11_waive_70 (v := 3) (by decide) ?_
          refine g_callViW C dX11_waive_71 (c_X11_fails_1 _ _ _ _ _ _ _ _ _ _ (by rfl) (by decide)) tw1412 tw1414 tp14 tw16 tw1415 (rv_X11 C) rfl ⟨by decide +kernel, by decide +kernel, rfl⟩ ⟨rfl, rfl⟩ (by rw [hR]; decide) (Nat.le_of_ble_eq_true rfl) (by rw [hR]; decide) (fun r_17 X1 M1 K1 h_18 => ?_)
          obtain ⟨rfl, hX1, hM1, hK1⟩ := h_18
          subst X1 M1 K1
          refine g_if_eq C dX11_waive_74 (tgt := 79) (by decide) (fun c_74 => absurd c_74 (by decide)) (fun c_74 => ?_)
          refine g_iconst C dX11_waive_77 (v := 0) (by decide) ?_
          refine g_zretW C hr (by decide) hQ (Nat.le_refl _) (Nat.le_refl _) dX11_waive_78 ?_
          exact ⟨(by first | with_reducible rfl | (subst er_1 er_3 er_5 er_9; first | with_reducible rfl | (simp only [sa_ap, si_ap, si_sa, sa_sa, sa_3, sa_4, sa_5, sa_6, sa_7, sa_8, xs_waive, up_us, up_up, xs_b, c_15, c_clj, c_b15, c_23, c_cli, c_35, c_62]; done) | (simp [sa_ap, si_ap, si_sa, sa_sa, sa_3, sa_4, sa_5, sa_6, sa_7, sa_8, xs_waive, up_us, up_up, xs_b, c_15, c_clj, c_b15, c_23, c_cli, c_35, c_62]; done))), rfl, (by first | with_reducible rfl | (subst er_1 er_3 er_5 er_9; first | with_reducible rfl | (simp only [sa_ap, si_ap, si_sa, sa_sa, sa_3, sa_4, sa_5, sa_6, sa_7, sa_8, xs_waive, up_us, up_up, xs_b, c_15, c_clj, c_b15, c_23, c_cli, c_35, c_62]; done) | (simp [sa_ap, si_ap, si_sa, sa_sa, sa_3, sa_4, sa_5, sa_6, sa_7, sa_8, xs_waive, up_us, up_up, xs_b, c_15, c_clj, c_b15, c_23, c_cli, c_35, c_62]; done))), rfl⟩
      · try simp only [sa_ap, si_ap, reduceIte, Nat.reduceEqDiff, up_us, lg_cmp_lt, lg_cmp_gt, lg_cmp_le, lg_cmp_ge] at c_35
        refine g_iconst C dX11_waive_38 (v := 1) (by decide) ?_
        refine g_goto C dX11_waive_39 (tgt := 43) (by decide) ?_
        refine g_iconst C dX11_waive_43 (v := 2) (by decide) ?_
        refine g_callViW C dX11_waive_44 (c_X11_fails_1 _ _ _ _ _ _ _ _ _ _ (by rfl) (by decide)) tw1412 tw1414 tp14 tw16 tw1415 (rv_X11 C) rfl ⟨by decide +kernel, by decide +kernel, rfl⟩ ⟨rfl, rfl⟩ (by rw [hR]; decide) (Nat.le_of_ble_eq_true rfl) (by rw [hR]; decide) (fun r_19 X1 M1 K1 h_20 => ?_)
        obtain ⟨rfl, hX1, hM1, hK1⟩ := h_20
        subst X1 M1 K1
        refine g_if_ne C dX11_waive_47 (tgt := 77) (by decide) (fun c_47 => ?_) (fun c_47 => absurd c_47 (by decide))
        refine g_iconst C dX11_waive_77 (v := 0) (by decide) ?_
        refine g_zretW C hr (by decide) hQ (Nat.le_refl _) (Nat.le_refl _) dX11_waive_78 ?_
        exact ⟨(by first | with_reducible rfl | (subst er_1 er_3 er_5 er_9; first | with_reducible rfl | (simp only [sa_ap, si_ap, si_sa, sa_sa, sa_3, sa_4, sa_5, sa_6, sa_7, sa_8, xs_waive, up_us, up_up, xs_b, c_15, c_clj, c_b15, c_23, c_cli, c_35]; done) | (simp [sa_ap, si_ap, si_sa, sa_sa, sa_3, sa_4, sa_5, sa_6, sa_7, sa_8, xs_waive, up_us, up_up, xs_b, c_15, c_clj, c_b15, c_23, c_cli, c_35]; done))), rfl, (by first | with_reducible rfl | (subst er_1 er_3 er_5 er_9; first | with_reducible rfl | (simp only [sa_ap, si_ap, si_sa, sa_sa, sa_3, sa_4, sa_5, sa_6, sa_7, sa_8, xs_waive, up_us, up_up, xs_b, c_15, c_clj, c_b15, c_23, c_cli, c_35]; done) | (simp [sa_ap, si_ap, si_sa, sa_sa, sa_3, sa_4, sa_5, sa_6, sa_7, sa_8, xs_waive, up_us, up_up, xs_b, c_15, c_clj, c_b15, c_23, c_cli, c_35]; done))), rfl⟩

set_option maxHeartbeats 400000 in
set_option maxRecDepth 100000 in
/-- endWaivers.endWaivers -/
theorem c_X11_endWaivers (l : Launch) (D : va_G) (cy : Nat → ClassId) (A : Nat → Prop) (ad sad : Nat → Nat) (X M : XF) (K : KF) : Met l yX11_endWaivers (wsA yX11_endWaivers cX11_endWaivers 2 none) ({ frames := 0, cells := 0, slots := 0, locals := 0 }) (PcW D cy A ad sad X M K [.ref (ad 42)]) (QvW D cy A ad (fun X1 M1 K1 => X1 = X ∧ M1 = sa M 69 (md_end (M 69) 12) ∧ K1 = K)) 0 0 A := by
  refine met_ofW [(0, .ref (ad 42))] (by decide +kernel) (Nat.le_of_ble_eq_true rfl) rfl ?_
  intro G C hl hR hL hD hcy hA had hsa hr hQ
  subst hD hcy hA had hsa hl
  refine g_iconst C dX11_endWaivers_0 (v := 0) (by decide) ?_
  refine g_istore_n C dX11_endWaivers_1 (L' := [(1, .int 0), (0, .ref (gad G 42))]) rfl (by rw [hL]; decide) ?_
  have lp2 : ∀ (n i : Nat) (hi : i + n = 12), GH G (WX G X (sa M 69 (md_end (M 69) i)) K) [(0, .ref (gad G 42)), (1, .int (nI i))] 0 0 2 [] := by
    intro n
    induction n with
    | zero =>
      intro i hi
      obtain rfl : i = 12 := by omega
      refine g_iload_n C dX11_endWaivers_2 1 rfl ?_
      refine g_bipush C dX11_endWaivers_3 (v := 12) (by decide) ?_
      refine g_icmp_ge C dX11_endWaivers_5 (tgt := 21) (by decide) (fun c_5 => ?_) (fun c_5 => absurd (nI_le (a := 12) (b := 12) (Nat.le_refl _) (by omega)) c_5)
      refine g_vretW C hr hQ (Nat.le_refl _) (Nat.le_refl _) dX11_endWaivers_21 ?_
      exact ⟨(by first | with_reducible rfl | (first | with_reducible rfl | (simp only [sa_ap, si_ap, si_sa, sa_sa, sa_3, sa_4, sa_5, sa_6, sa_7, sa_8, md_end, up_us, up_up, xs_b]; done) | (simp [sa_ap, si_ap, si_sa, sa_sa, sa_3, sa_4, sa_5, sa_6, sa_7, sa_8, md_end, up_us, up_up, xs_b]; done))), rfl, rfl⟩
    | succ n ih =>
      intro i hi
      refine g_iload_n C dX11_endWaivers_2 1 rfl ?_
      refine g_bipush C dX11_endWaivers_3 (v := 12) (by decide) ?_
      refine g_icmp_ge C dX11_endWaivers_5 (tgt := 21) (by decide) (fun c_5 => absurd c_5 (nI_ge (a := i) (b := 12) (by omega) (by omega))) (fun c_5 => ?_)
      refine g_aload_n C dX11_endWaivers_8 0 rfl ?_
      refine gf_X11_isWaived C tw1289 dX11_endWaivers_9 ?_
      refine g_iload_n C dX11_endWaivers_12 1 rfl ?_
      refine g_iconst C dX11_endWaivers_13 (v := 0) (by decide) ?_
      refine as_69 C (by first | exact isBo_0 | exact isBo_1 | assumption) (by omega) dX11_endWaivers_14 ?_
      refine g_iinc C dX11_endWaivers_15 1 rfl (v := nI (i + 1)) (nI_1 _) (L' := [(1, .int (nI (i + 1))), (0, .ref (gad G 42))]) rfl (by rw [hL]; decide) ?_
      refine g_goto C dX11_endWaivers_18 (tgt := 2) (by decide) ?_
      exact g_sub [1, 0] rfl (g_M (by first | with_reducible rfl | (first | with_reducible rfl | (simp only [sa_ap, si_ap, si_sa, sa_sa, sa_3, sa_4, sa_5, sa_6, sa_7, sa_8, md_end, up_us, up_up, xs_b]; done) | (simp [sa_ap, si_ap, si_sa, sa_sa, sa_3, sa_4, sa_5, sa_6, sa_7, sa_8, md_end, up_us, up_up, xs_b]; done))) (ih (i + 1) (by omega)))
  exact g_sub [1, 0] rfl (g_M (sa_self M 69).symm (lp2 (12) 0 (by omega)))

set_option maxHeartbeats 400000 in
set_option maxRecDepth 100000 in
/-- go.go -/
theorem c_X11_go (l : Launch) (D : va_G) (cy : Nat → ClassId) (A : Nat → Prop) (ad sad : Nat → Nat) (X M : XF) (K : KF) (p1 p2 : Int32) (h2 : isBo p2) (hb : ∀ i : Nat, isBo (M 61 i)) : Met l yX11_go (wsA yX11_go cX11_go 4 (some .boolean)) ({ frames := 2, cells := 0, slots := 0, locals := 45 }) (PcW D cy A ad sad X M K [.ref (ad 42), .int p1, .int p2]) (QiW D cy A ad (fun r X1 M1 K1 => r = (if xs_b (md_nc p1) = 0 then M 61 p1.toNatClampNeg else 0) ∧ X1 = X ∧ M1 = (if xs_b (md_nc p1) = 0 then sa (si M 100 0) 61 (upd (M 61) p1.toNatClampNeg p2) else si M 100 (xs_b (md_nc p1))) ∧ K1 = K)) 0 0 A := by
  refine met_ofW [(0, .ref (ad 42)), (1, .int p1), (2, .int p2)] (by decide +kernel) (Nat.le_of_ble_eq_true rfl) rfl ?_
  intro G C hl hR hL hD hcy hA had hsa hr hQ
  subst hD hcy hA had hsa hl
  refine g_aload_n C dX11_go_0 0 rfl ?_
  refine g_iconst C dX11_go_1 (v := 0) (by decide) ?_
  refine pf_X11_thrown C tw1243 dX11_go_2 ?_
  refine g_aload_n C dX11_go_5 0 rfl ?_
  refine g_iload_n C dX11_go_6 1 rfl ?_
  refine g_callSiW C dX11_go_7 (c_X11_noConsole _ _ _ _ _ _ _ _ _ _) tw1582 tw1583 tw16 tw1584 rfl ⟨by decide +kernel, by decide +kernel, rfl⟩ ⟨rfl, rfl⟩ (by rw [hR]; decide) (Nat.le_of_ble_eq_true rfl) (by rw [hR]; decide) (fun r_1 X1 M1 K1 h_2 => ?_)
  obtain ⟨er_1, hX1, hM1, hK1⟩ := h_2
  subst X1 M1 K1
  try simp only [sa_ap, si_ap, reduceIte, Nat.reduceEqDiff] at er_1
  refine g_iconst C dX11_go_10 (v := 1) (by decide) ?_
  refine g_callViW C dX11_go_11 (c_X11_fails _ _ _ _ _ _ _ _ _ _ _ (by rfl) (by decide)) tw1412 tw1414 tp14 tw16 tw1415 (rv_X11 C) rfl ⟨by decide +kernel, by decide +kernel, rfl⟩ ⟨rfl, rfl⟩ (by rw [hR]; decide) (Nat.le_of_ble_eq_true rfl) (by rw [hR]; decide) (fun r_3 X1 M1 K1 h_4 => ?_)
  obtain ⟨er_3, hX1, hM1, hK1⟩ := h_4
  subst X1 M1 K1
  try simp only [sa_ap, si_ap, reduceIte, Nat.reduceEqDiff] at er_3
  refine g_if_eq C dX11_go_14 (tgt := 19) (by decide) (fun c_14 => ?_) (fun c_14 => ?_)
  · try simp only [sa_ap, si_ap, reduceIte, Nat.reduceEqDiff, up_us, lg_cmp_lt, lg_cmp_gt, lg_cmp_le, lg_cmp_ge] at c_14
    have c_b14 := md_r0 er_3 c_14
    rw [if_pos c_b14]
    obtain ⟨j, hj, rfl⟩ := md_nc_ix (p := p1) (by rw [← er_1]; exact c_b14)
    have c_clj : (nI j).toNatClampNeg = j := nI_clamp (by omega)
    refine g_aload_n C dX11_go_19 0 rfl ?_
    refine gf_X11_saysGo C tw1280 dX11_go_20 ?_
    refine g_iload_n C dX11_go_23 1 rfl ?_
    refine al_61 C (by omega) dX11_go_24 ?_
    refine g_namei (fun v_5 ev_5 => ?_)
    refine g_istore_n C dX11_go_25 (L' := [(3, .int v_5), (0, .ref (gad G 42)), (1, .int (nI j)), (2, .int p2)]) rfl (by rw [hL]; decide) ?_
    refine g_aload_n C dX11_go_26 1 rfl ?_
    refine gf_X11_saysGo C tw1280 dX11_go_27 ?_
    refine g_iload_n C dX11_go_30 2 rfl ?_
    refine g_iload_n C dX11_go_31 3 rfl ?_
    refine as_61 C (by first | exact isBo_0 | exact isBo_1 | assumption) (by omega) dX11_go_32 ?_
    refine g_iload_n C dX11_go_33 0 rfl ?_
    refine g_zretW C hr (by subst ev_5; exact (isBo.na (hb _)).1) hQ (Nat.le_refl _) (Nat.le_refl _) dX11_go_34 ?_
    exact ⟨(by first | with_reducible rfl | (subst er_1 er_3 ev_5; first | with_reducible rfl | (simp only [sa_ap, si_ap, si_sa, sa_sa, sa_3, sa_4, sa_5, sa_6, sa_7, sa_8, up_us, up_up, xs_b, c_14, c_clj, c_b14]; done) | (simp [sa_ap, si_ap, si_sa, sa_sa, sa_3, sa_4, sa_5, sa_6, sa_7, sa_8, up_us, up_up, xs_b, c_14, c_clj, c_b14]; done))), rfl, (by first | with_reducible rfl | (subst er_1 er_3 ev_5; first | with_reducible rfl | (simp only [sa_ap, si_ap, si_sa, sa_sa, sa_3, sa_4, sa_5, sa_6, sa_7, sa_8, up_us, up_up, xs_b, c_14, c_clj, c_b14]; done) | (simp [sa_ap, si_ap, si_sa, sa_sa, sa_3, sa_4, sa_5, sa_6, sa_7, sa_8, up_us, up_up, xs_b, c_14, c_clj, c_b14]; done))), rfl⟩
  · try simp only [sa_ap, si_ap, reduceIte, Nat.reduceEqDiff, up_us, lg_cmp_lt, lg_cmp_gt, lg_cmp_le, lg_cmp_ge] at c_14
    have c_b14 := md_r1 er_3 c_14
    rw [if_neg c_b14]
    refine g_iconst C dX11_go_17 (v := 0) (by decide) ?_
    refine g_zretW C hr (by decide) hQ (Nat.le_refl _) (Nat.le_refl _) dX11_go_18 ?_
    exact ⟨(by first | with_reducible rfl | (subst er_1 er_3; first | with_reducible rfl | (simp only [sa_ap, si_ap, si_sa, sa_sa, sa_3, sa_4, sa_5, sa_6, sa_7, sa_8, up_us, up_up, xs_b, c_14, c_b14]; done) | (simp [sa_ap, si_ap, si_sa, sa_sa, sa_3, sa_4, sa_5, sa_6, sa_7, sa_8, up_us, up_up, xs_b, c_14, c_b14]; done))), rfl, (by first | with_reducible rfl | (subst er_1 er_3; first | with_reducible rfl | (simp only [sa_ap, si_ap, si_sa, sa_sa, sa_3, sa_4, sa_5, sa_6, sa_7, sa_8, up_us, up_up, xs_b, c_14, c_b14]; done) | (simp [sa_ap, si_ap, si_sa, sa_sa, sa_3, sa_4, sa_5, sa_6, sa_7, sa_8, up_us, up_up, xs_b, c_14, c_b14]; done))), rfl⟩

set_option maxHeartbeats 400000 in
set_option maxRecDepth 100000 in
/-- valueOf.valueOf -/
theorem c_X11_valueOf (l : Launch) (D : va_G) (cy : Nat → ClassId) (A : Nat → Prop) (ad sad : Nat → Nat) (X M : XF) (K : KF) (j : Nat) (hj : j < 12) (ho : okAb (M 63 j) (M 64 j)) (zs : Nat) (hzs : M 116 0 = nI zs) (hzk : zs ≤ K.2.1 2) (hk2 : K.2.1 2 < 2 ^ 31) (h0 : ∀ k : Nat, k < 3 → ¬ sn_cnt (M 57) k 3 = 0) : Met l yX11_valueOf (wsA yX11_valueOf cX11_valueOf 3 (some .int)) ({ frames := 2, cells := 0, slots := 0, locals := 48 }) (PcW D cy A ad sad X M K [.ref (ad 42), .int (nI j)]) (QiW D cy A ad (fun r X1 M1 K1 => r = md_val M K zs j ∧ X1 = X ∧ M1 = M ∧ K1 = K)) 0 0 A := by
  refine met_ofW [(0, .ref (ad 42)), (1, .int (nI j))] (by decide +kernel) (Nat.le_of_ble_eq_true rfl) rfl ?_
  intro G C hl hR hL hD hcy hA had hsa hr hQ
  subst hD hcy hA had hsa hl
  refine g_aload_n C dX11_valueOf_0 0 rfl ?_
  refine gf_X11_about C tw1284 dX11_valueOf_1 ?_
  refine g_iload_n C dX11_valueOf_4 1 rfl ?_
  refine al_64 C (by omega) dX11_valueOf_5 ?_
  refine g_topi rfl ?_
  refine g_istore_n C dX11_valueOf_6 (L' := [(2, .int (M 64 j)), (0, .ref (gad G 42)), (1, .int (nI j))]) rfl (by rw [hL]; decide) ?_
  refine g_aload_n C dX11_valueOf_7 1 rfl ?_
  refine gf_X11_kind C tw1283 dX11_valueOf_8 ?_
  refine g_iload_n C dX11_valueOf_11 2 rfl ?_
  refine al_63 C (by omega) dX11_valueOf_12 ?_
  by_cases c_13_98 : M 63 j = 98
  · refine g_lsw (off := 74) (tgt := 87) C dX11_valueOf_13 (by decide) (by show Op.lookupswitch.offset [(98, 74), (108, 69), (115, 58), (116, 51), (119, 64)] 79 (M 63 j : Int32).toInt = _; rw [c_13_98]; rfl) (by decide) ?_
    refine g_aload_n C dX11_valueOf_87 1 rfl ?_
    refine g_callViW C dX11_valueOf_88 (c_X11_riskOfAll _ _ _ _ _ _ _ _ _ ) tw1505 tw1507 tp22 tw16 tw1508 (rv_X11 C) rfl ⟨by decide +kernel, by decide +kernel, rfl⟩ ⟨rfl, rfl⟩ (by rw [hR]; decide) (Nat.le_of_ble_eq_true rfl) (by rw [hR]; decide) (fun r_1 X1 M1 K1 h_2 => ?_)
    obtain ⟨er_1, hX1, hM1, hK1⟩ := h_2
    subst X1 M1 K1
    try simp only [sa_ap, si_ap, reduceIte, Nat.reduceEqDiff] at er_1
    refine g_iretW C hr hQ (Nat.le_refl _) (Nat.le_refl _) dX11_valueOf_91 ?_
    exact ⟨(by first | with_reducible rfl | (subst er_1; first | with_reducible rfl | (simp only [sa_ap, si_ap, si_sa, sa_sa, sa_3, sa_4, sa_5, sa_6, sa_7, sa_8, md_val, up_us, up_up, xs_b, c_13_98]; done) | (simp [sa_ap, si_ap, si_sa, sa_sa, sa_3, sa_4, sa_5, sa_6, sa_7, sa_8, md_val, up_us, up_up, xs_b, c_13_98]; done))), (by first | with_reducible rfl | (subst er_1; first | with_reducible rfl | (simp only [sa_ap, si_ap, si_sa, sa_sa, sa_3, sa_4, sa_5, sa_6, sa_7, sa_8, md_val, up_us, up_up, xs_b, c_13_98]; done) | (simp [sa_ap, si_ap, si_sa, sa_sa, sa_3, sa_4, sa_5, sa_6, sa_7, sa_8, md_val, up_us, up_up, xs_b, c_13_98]; done))), rfl, rfl⟩
  by_cases c_13_108 : M 63 j = 108
  · refine g_lsw (off := 69) (tgt := 82) C dX11_valueOf_13 (by decide) (by show Op.lookupswitch.offset [(98, 74), (108, 69), (115, 58), (116, 51), (119, 64)] 79 (M 63 j : Int32).toInt = _; rw [lv_osw (a := 98) c_13_98 (by decide), c_13_108]; rfl) (by decide) ?_
    refine g_aload_n C dX11_valueOf_82 1 rfl ?_
    refine g_callViW C dX11_valueOf_83 (c_X11_near _ _ _ _ _ _ _ _ _ zs hzs hzk hk2) tw1495 tw1497 tp21 tw16 tw1498 (rv_X11 C) rfl ⟨by decide +kernel, by decide +kernel, rfl⟩ ⟨rfl, rfl⟩ (by rw [hR]; decide) (Nat.le_of_ble_eq_true rfl) (by rw [hR]; decide) (fun r_3 X1 M1 K1 h_4 => ?_)
    obtain ⟨er_3, hX1, hM1, hK1⟩ := h_4
    subst X1 M1 K1
    try simp only [sa_ap, si_ap, reduceIte, Nat.reduceEqDiff] at er_3
    refine g_iretW C hr hQ (Nat.le_refl _) (Nat.le_refl _) dX11_valueOf_86 ?_
    exact ⟨(by first | with_reducible rfl | (subst er_3; first | with_reducible rfl | (simp only [sa_ap, si_ap, si_sa, sa_sa, sa_3, sa_4, sa_5, sa_6, sa_7, sa_8, md_val, up_us, up_up, xs_b, c_13_98, c_13_108]; done) | (simp [sa_ap, si_ap, si_sa, sa_sa, sa_3, sa_4, sa_5, sa_6, sa_7, sa_8, md_val, up_us, up_up, xs_b, c_13_98, c_13_108]; done))), (by first | with_reducible rfl | (subst er_3; first | with_reducible rfl | (simp only [sa_ap, si_ap, si_sa, sa_sa, sa_3, sa_4, sa_5, sa_6, sa_7, sa_8, md_val, up_us, up_up, xs_b, c_13_98, c_13_108]; done) | (simp [sa_ap, si_ap, si_sa, sa_sa, sa_3, sa_4, sa_5, sa_6, sa_7, sa_8, md_val, up_us, up_up, xs_b, c_13_98, c_13_108]; done))), rfl, rfl⟩
  by_cases c_13_115 : M 63 j = 115
  · refine g_lsw (off := 58) (tgt := 71) C dX11_valueOf_13 (by decide) (by show Op.lookupswitch.offset [(98, 74), (108, 69), (115, 58), (116, 51), (119, 64)] 79 (M 63 j : Int32).toInt = _; rw [lv_osw (a := 98) c_13_98 (by decide), lv_osw (a := 108) c_13_108 (by decide), c_13_115]; rfl) (by decide) ?_
    obtain ⟨a, ha, ea⟩ := ho.2.1 c_13_115
    have c_cl : (M 64 j).toNatClampNeg = a := by rw [ea]; exact nI_clamp (by omega)
    refine g_aload_n C dX11_valueOf_71 1 rfl ?_
    refine g_iload_n C dX11_valueOf_72 0 rfl ?_
    refine g_topi ea ?_
    refine g_callViW C dX11_valueOf_73 (c_X11_together _ _ _ _ _ _ _ _ _ a ha (h0 a ha)) tw1472 tw1474 tp19 tw16 tw1475 (rv_X11 C) rfl ⟨by decide +kernel, by decide +kernel, rfl⟩ ⟨rfl, rfl⟩ (by rw [hR]; decide) (Nat.le_of_ble_eq_true rfl) (by rw [hR]; decide) (fun r_5 X1 M1 K1 h_6 => ?_)
    obtain ⟨er_5, hX1, hM1, hK1⟩ := h_6
    subst X1 M1 K1
    try simp only [sa_ap, si_ap, reduceIte, Nat.reduceEqDiff] at er_5
    refine g_iretW C hr hQ (Nat.le_refl _) (Nat.le_refl _) dX11_valueOf_76 ?_
    exact ⟨(by first | with_reducible rfl | (subst er_5; first | with_reducible rfl | (simp only [sa_ap, si_ap, si_sa, sa_sa, sa_3, sa_4, sa_5, sa_6, sa_7, sa_8, md_val, up_us, up_up, xs_b, c_13_98, c_13_108, c_13_115, c_cl]; done) | (simp [sa_ap, si_ap, si_sa, sa_sa, sa_3, sa_4, sa_5, sa_6, sa_7, sa_8, md_val, up_us, up_up, xs_b, c_13_98, c_13_108, c_13_115, c_cl]; done))), (by first | with_reducible rfl | (subst er_5; first | with_reducible rfl | (simp only [sa_ap, si_ap, si_sa, sa_sa, sa_3, sa_4, sa_5, sa_6, sa_7, sa_8, md_val, up_us, up_up, xs_b, c_13_98, c_13_108, c_13_115, c_cl]; done) | (simp [sa_ap, si_ap, si_sa, sa_sa, sa_3, sa_4, sa_5, sa_6, sa_7, sa_8, md_val, up_us, up_up, xs_b, c_13_98, c_13_108, c_13_115, c_cl]; done))), rfl, rfl⟩
  by_cases c_13_116 : M 63 j = 116
  · refine g_lsw (off := 51) (tgt := 64) C dX11_valueOf_13 (by decide) (by show Op.lookupswitch.offset [(98, 74), (108, 69), (115, 58), (116, 51), (119, 64)] 79 (M 63 j : Int32).toInt = _; rw [lv_osw (a := 98) c_13_98 (by decide), lv_osw (a := 108) c_13_108 (by decide), lv_osw (a := 115) c_13_115 (by decide), c_13_116]; rfl) (by decide) ?_
    obtain ⟨a, ha, ea⟩ := ho.1 c_13_116
    have c_cl : (M 64 j).toNatClampNeg = a := by rw [ea]; exact nI_clamp (by omega)
    refine g_aload_n C dX11_valueOf_64 1 rfl ?_
    refine gf_X11_inTank C tw1261 dX11_valueOf_65 ?_
    refine g_iload_n C dX11_valueOf_68 0 rfl ?_
    refine g_topi ea ?_
    refine al_46 C (by omega) dX11_valueOf_69 ?_
    refine g_iretW C hr hQ (Nat.le_refl _) (Nat.le_refl _) dX11_valueOf_70 ?_
    exact ⟨(by first | with_reducible rfl | (first | with_reducible rfl | (simp only [sa_ap, si_ap, si_sa, sa_sa, sa_3, sa_4, sa_5, sa_6, sa_7, sa_8, md_val, up_us, up_up, xs_b, c_13_98, c_13_108, c_13_115, c_13_116, c_cl]; done) | (simp [sa_ap, si_ap, si_sa, sa_sa, sa_3, sa_4, sa_5, sa_6, sa_7, sa_8, md_val, up_us, up_up, xs_b, c_13_98, c_13_108, c_13_115, c_13_116, c_cl]; done))), (by first | with_reducible rfl | (first | with_reducible rfl | (simp only [sa_ap, si_ap, si_sa, sa_sa, sa_3, sa_4, sa_5, sa_6, sa_7, sa_8, md_val, up_us, up_up, xs_b, c_13_98, c_13_108, c_13_115, c_13_116, c_cl]; done) | (simp [sa_ap, si_ap, si_sa, sa_sa, sa_3, sa_4, sa_5, sa_6, sa_7, sa_8, md_val, up_us, up_up, xs_b, c_13_98, c_13_108, c_13_115, c_13_116, c_cl]; done))), rfl, rfl⟩
  by_cases c_13_119 : M 63 j = 119
  · refine g_lsw (off := 64) (tgt := 77) C dX11_valueOf_13 (by decide) (by show Op.lookupswitch.offset [(98, 74), (108, 69), (115, 58), (116, 51), (119, 64)] 79 (M 63 j : Int32).toInt = _; rw [lv_osw (a := 98) c_13_98 (by decide), lv_osw (a := 108) c_13_108 (by decide), lv_osw (a := 115) c_13_115 (by decide), lv_osw (a := 116) c_13_116 (by decide), c_13_119]; rfl) (by decide) ?_
    refine g_aload_n C dX11_valueOf_77 1 rfl ?_
    refine gf_X11_wind C tw1275 dX11_valueOf_78 ?_
    refine g_iretW C hr hQ (Nat.le_refl _) (Nat.le_refl _) dX11_valueOf_81 ?_
    exact ⟨(by first | with_reducible rfl | (first | with_reducible rfl | (simp only [sa_ap, si_ap, si_sa, sa_sa, sa_3, sa_4, sa_5, sa_6, sa_7, sa_8, md_val, up_us, up_up, xs_b, c_13_98, c_13_108, c_13_115, c_13_116, c_13_119]; done) | (simp [sa_ap, si_ap, si_sa, sa_sa, sa_3, sa_4, sa_5, sa_6, sa_7, sa_8, md_val, up_us, up_up, xs_b, c_13_98, c_13_108, c_13_115, c_13_116, c_13_119]; done))), (by first | with_reducible rfl | (first | with_reducible rfl | (simp only [sa_ap, si_ap, si_sa, sa_sa, sa_3, sa_4, sa_5, sa_6, sa_7, sa_8, md_val, up_us, up_up, xs_b, c_13_98, c_13_108, c_13_115, c_13_116, c_13_119]; done) | (simp [sa_ap, si_ap, si_sa, sa_sa, sa_3, sa_4, sa_5, sa_6, sa_7, sa_8, md_val, up_us, up_up, xs_b, c_13_98, c_13_108, c_13_115, c_13_116, c_13_119]; done))), rfl, rfl⟩
  refine g_lsw (off := 79) (tgt := 92) C dX11_valueOf_13 (by decide) (by show Op.lookupswitch.offset [(98, 74), (108, 69), (115, 58), (116, 51), (119, 64)] 79 (M 63 j : Int32).toInt = _; rw [lv_osw (a := 98) c_13_98 (by decide), lv_osw (a := 108) c_13_108 (by decide), lv_osw (a := 115) c_13_115 (by decide), lv_osw (a := 116) c_13_116 (by decide), lv_osw (a := 119) c_13_119 (by decide)]; rfl) (by decide) ?_
  obtain ⟨a, ha, ea⟩ := ho.2.2 c_13_98 c_13_108 c_13_115 c_13_116 c_13_119
  have c_cl : (M 64 j).toNatClampNeg = a := by rw [ea]; exact nI_clamp (by omega)
  refine g_aload_n C dX11_valueOf_92 1 rfl ?_
  refine gf_X11_saysGo C tw1280 dX11_valueOf_93 ?_
  refine g_iload_n C dX11_valueOf_96 0 rfl ?_
  refine g_topi ea ?_
  refine al_61 C (by omega) dX11_valueOf_97 ?_
  refine g_if_eq C dX11_valueOf_98 (tgt := 105) (by decide) (fun c_98 => ?_) (fun c_98 => ?_)
  · try simp only [sa_ap, si_ap, reduceIte, Nat.reduceEqDiff, up_us, lg_cmp_lt, lg_cmp_gt, lg_cmp_le, lg_cmp_ge] at c_98
    refine g_iconst C dX11_valueOf_105 (v := 0) (by decide) ?_
    refine g_iretW C hr hQ (Nat.le_refl _) (Nat.le_refl _) dX11_valueOf_106 ?_
    exact ⟨(by first | with_reducible rfl | (first | with_reducible rfl | (simp only [sa_ap, si_ap, si_sa, sa_sa, sa_3, sa_4, sa_5, sa_6, sa_7, sa_8, md_val, up_us, up_up, xs_b, c_13_98, c_13_108, c_13_115, c_13_116, c_13_119, c_cl, c_98]; done) | (simp [sa_ap, si_ap, si_sa, sa_sa, sa_3, sa_4, sa_5, sa_6, sa_7, sa_8, md_val, up_us, up_up, xs_b, c_13_98, c_13_108, c_13_115, c_13_116, c_13_119, c_cl, c_98]; done))), (by first | with_reducible rfl | (first | with_reducible rfl | (simp only [sa_ap, si_ap, si_sa, sa_sa, sa_3, sa_4, sa_5, sa_6, sa_7, sa_8, md_val, up_us, up_up, xs_b, c_13_98, c_13_108, c_13_115, c_13_116, c_13_119, c_cl, c_98]; done) | (simp [sa_ap, si_ap, si_sa, sa_sa, sa_3, sa_4, sa_5, sa_6, sa_7, sa_8, md_val, up_us, up_up, xs_b, c_13_98, c_13_108, c_13_115, c_13_116, c_13_119, c_cl, c_98]; done))), rfl, rfl⟩
  · try simp only [sa_ap, si_ap, reduceIte, Nat.reduceEqDiff, up_us, lg_cmp_lt, lg_cmp_gt, lg_cmp_le, lg_cmp_ge] at c_98
    refine g_iconst C dX11_valueOf_101 (v := 1) (by decide) ?_
    refine g_goto C dX11_valueOf_102 (tgt := 106) (by decide) ?_
    refine g_iretW C hr hQ (Nat.le_refl _) (Nat.le_refl _) dX11_valueOf_106 ?_
    exact ⟨(by first | with_reducible rfl | (first | with_reducible rfl | (simp only [sa_ap, si_ap, si_sa, sa_sa, sa_3, sa_4, sa_5, sa_6, sa_7, sa_8, md_val, up_us, up_up, xs_b, c_13_98, c_13_108, c_13_115, c_13_116, c_13_119, c_cl, c_98]; done) | (simp [sa_ap, si_ap, si_sa, sa_sa, sa_3, sa_4, sa_5, sa_6, sa_7, sa_8, md_val, up_us, up_up, xs_b, c_13_98, c_13_108, c_13_115, c_13_116, c_13_119, c_cl, c_98]; done))), (by first | with_reducible rfl | (first | with_reducible rfl | (simp only [sa_ap, si_ap, si_sa, sa_sa, sa_3, sa_4, sa_5, sa_6, sa_7, sa_8, md_val, up_us, up_up, xs_b, c_13_98, c_13_108, c_13_115, c_13_116, c_13_119, c_cl, c_98]; done) | (simp [sa_ap, si_ap, si_sa, sa_sa, sa_3, sa_4, sa_5, sa_6, sa_7, sa_8, md_val, up_us, up_up, xs_b, c_13_98, c_13_108, c_13_115, c_13_116, c_13_119, c_cl, c_98]; done))), rfl, rfl⟩

set_option maxHeartbeats 400000 in
set_option maxRecDepth 100000 in
/-- value.value -/
theorem c_X11_value (l : Launch) (D : va_G) (cy : Nat → ClassId) (A : Nat → Prop) (ad sad : Nat → Nat) (X M : XF) (K : KF) (p1 : Int32) (z : Nat) (hz : M 117 0 = nI z) (hzl : z ≤ 12) (ho : ∀ j : Nat, j < z → okAb (M 63 j) (M 64 j)) (zs : Nat) (hzs : M 116 0 = nI zs) (hzk : zs ≤ K.2.1 2) (hk2 : K.2.1 2 < 2 ^ 31) (h0 : ∀ k : Nat, k < 3 → ¬ sn_cnt (M 57) k 3 = 0) : Met l yX11_value (wsA yX11_value cX11_value 2 (some .int)) ({ frames := 3, cells := 0, slots := 0, locals := 70 }) (PcW D cy A ad sad X M K [.ref (ad 42), .int p1]) (QiW D cy A ad (fun r X1 M1 K1 => r = (if xs_b (md_no p1 (M 117 0)) = 0 then md_val M K zs p1.toNatClampNeg else 0) ∧ X1 = X ∧ M1 = (if xs_b (md_no p1 (M 117 0)) = 0 then si M 100 0 else si M 100 (xs_b (md_no p1 (M 117 0)))) ∧ K1 = K)) 0 0 A := by
  refine met_ofW [(0, .ref (ad 42)), (1, .int p1)] (by decide +kernel) (Nat.le_of_ble_eq_true rfl) rfl ?_
  intro G C hl hR hL hD hcy hA had hsa hr hQ
  subst hD hcy hA had hsa hl
  refine g_aload_n C dX11_value_0 0 rfl ?_
  refine g_iconst C dX11_value_1 (v := 0) (by decide) ?_
  refine pf_X11_thrown C tw1243 dX11_value_2 ?_
  refine g_aload_n C dX11_value_5 0 rfl ?_
  refine g_aload_n C dX11_value_6 0 rfl ?_
  refine g_iload_n C dX11_value_7 1 rfl ?_
  refine g_callViW C dX11_value_8 (c_X11_noRule _ _ _ _ _ _ _ _ _ _) tw1578 tw1580 tp23 tw16 tw1581 (rv_X11 C) rfl ⟨by decide +kernel, by decide +kernel, rfl⟩ ⟨rfl, rfl⟩ (by rw [hR]; decide) (Nat.le_of_ble_eq_true rfl) (by rw [hR]; decide) (fun r_1 X1 M1 K1 h_2 => ?_)
  obtain ⟨er_1, hX1, hM1, hK1⟩ := h_2
  subst X1 M1 K1
  try simp only [sa_ap, si_ap, reduceIte, Nat.reduceEqDiff] at er_1
  refine g_iconst C dX11_value_11 (v := 1) (by decide) ?_
  refine g_callViW C dX11_value_12 (c_X11_fails _ _ _ _ _ _ _ _ _ _ _ (by rfl) (by decide)) tw1412 tw1414 tp14 tw16 tw1415 (rv_X11 C) rfl ⟨by decide +kernel, by decide +kernel, rfl⟩ ⟨rfl, rfl⟩ (by rw [hR]; decide) (Nat.le_of_ble_eq_true rfl) (by rw [hR]; decide) (fun r_3 X1 M1 K1 h_4 => ?_)
  obtain ⟨er_3, hX1, hM1, hK1⟩ := h_4
  subst X1 M1 K1
  try simp only [sa_ap, si_ap, reduceIte, Nat.reduceEqDiff] at er_3
  refine g_if_eq C dX11_value_15 (tgt := 22) (by decide) (fun c_15 => ?_) (fun c_15 => ?_)
  · try simp only [sa_ap, si_ap, reduceIte, Nat.reduceEqDiff, up_us, lg_cmp_lt, lg_cmp_gt, lg_cmp_le, lg_cmp_ge] at c_15
    have c_b15 := md_r0 er_3 c_15
    rw [if_pos c_b15]
    obtain ⟨j, hj, rfl⟩ := md_no_ix (p := p1) hz (by omega) (by rw [← er_1]; exact c_b15)
    have c_clj : (nI j).toNatClampNeg = j := nI_clamp (by omega)
    refine g_aload_n C dX11_value_22 0 rfl ?_
    refine g_iload_n C dX11_value_23 1 rfl ?_
    refine g_callViW C dX11_value_24 (c_X11_valueOf _ _ _ _ _ _ _ (si M 100 0) _ j (by omega) (ho j hj) zs hzs hzk hk2 h0) tw1601 tw1603 tp25 tw16 tw1604 (rv_X11 C) rfl ⟨by decide +kernel, by decide +kernel, rfl⟩ ⟨rfl, rfl⟩ (by rw [hR]; decide) (Nat.le_of_ble_eq_true rfl) (by rw [hR]; decide) (fun r_5 X1 M1 K1 h_6 => ?_)
    obtain ⟨er_5, hX1, hM1, hK1⟩ := h_6
    subst X1 M1 K1
    try simp only [sa_ap, si_ap, reduceIte, Nat.reduceEqDiff] at er_5
    refine g_iretW C hr hQ (Nat.le_refl _) (Nat.le_refl _) dX11_value_27 ?_
    exact ⟨(by first | with_reducible rfl | (subst er_1 er_3 er_5; first | with_reducible rfl | (simp only [sa_ap, si_ap, si_sa, sa_sa, sa_3, sa_4, sa_5, sa_6, sa_7, sa_8, md_val_t, up_us, up_up, xs_b, c_15, c_clj, c_b15]; done) | (simp [sa_ap, si_ap, si_sa, sa_sa, sa_3, sa_4, sa_5, sa_6, sa_7, sa_8, md_val_t, up_us, up_up, xs_b, c_15, c_clj, c_b15]; done))), rfl, (by first | with_reducible rfl | (subst er_1 er_3 er_5; first | with_reducible rfl | (simp only [sa_ap, si_ap, si_sa, sa_sa, sa_3, sa_4, sa_5, sa_6, sa_7, sa_8, md_val_t, up_us, up_up, xs_b, c_15, c_clj, c_b15]; done) | (simp [sa_ap, si_ap, si_sa, sa_sa, sa_3, sa_4, sa_5, sa_6, sa_7, sa_8, md_val_t, up_us, up_up, xs_b, c_15, c_clj, c_b15]; done))), rfl⟩
  · try simp only [sa_ap, si_ap, reduceIte, Nat.reduceEqDiff, up_us, lg_cmp_lt, lg_cmp_gt, lg_cmp_le, lg_cmp_ge] at c_15
    have c_b15 := md_r1 er_3 c_15
    rw [if_neg c_b15]
    refine g_iconst C dX11_value_18 (v := 0) (by decide) ?_
    refine g_goto C dX11_value_19 (tgt := 27) (by decide) ?_
    refine g_iretW C hr hQ (Nat.le_refl _) (Nat.le_refl _) dX11_value_27 ?_
    exact ⟨(by first | with_reducible rfl | (subst er_1 er_3; first | with_reducible rfl | (simp only [sa_ap, si_ap, si_sa, sa_sa, sa_3, sa_4, sa_5, sa_6, sa_7, sa_8, md_val_t, up_us, up_up, xs_b, c_15, c_b15]; done) | (simp [sa_ap, si_ap, si_sa, sa_sa, sa_3, sa_4, sa_5, sa_6, sa_7, sa_8, md_val_t, up_us, up_up, xs_b, c_15, c_b15]; done))), rfl, (by first | with_reducible rfl | (subst er_1 er_3; first | with_reducible rfl | (simp only [sa_ap, si_ap, si_sa, sa_sa, sa_3, sa_4, sa_5, sa_6, sa_7, sa_8, md_val_t, up_us, up_up, xs_b, c_15, c_b15]; done) | (simp [sa_ap, si_ap, si_sa, sa_sa, sa_3, sa_4, sa_5, sa_6, sa_7, sa_8, md_val_t, up_us, up_up, xs_b, c_15, c_b15]; done))), rfl⟩

set_option maxHeartbeats 400000 in
set_option maxRecDepth 100000 in
/-- holdsFor.holdsFor -/
theorem c_X11_holdsFor (l : Launch) (D : va_G) (cy : Nat → ClassId) (A : Nat → Prop) (ad sad : Nat → Nat) (X M : XF) (K : KF) (p1 : Int32) (z : Nat) (hz : M 117 0 = nI z) (hzl : z ≤ 12) : Met l yX11_holdsFor (wsA yX11_holdsFor cX11_holdsFor 2 (some .int)) ({ frames := 2, cells := 0, slots := 0, locals := 46 }) (PcW D cy A ad sad X M K [.ref (ad 42), .int p1]) (QiW D cy A ad (fun r X1 M1 K1 => r = (if xs_b (md_no p1 (M 117 0)) = 0 then M 68 p1.toNatClampNeg else 0) ∧ X1 = X ∧ M1 = (if xs_b (md_no p1 (M 117 0)) = 0 then si M 100 0 else si M 100 (xs_b (md_no p1 (M 117 0)))) ∧ K1 = K)) 0 0 A := by
  refine met_ofW [(0, .ref (ad 42)), (1, .int p1)] (by decide +kernel) (Nat.le_of_ble_eq_true rfl) rfl ?_
  intro G C hl hR hL hD hcy hA had hsa hr hQ
  subst hD hcy hA had hsa hl
  refine g_aload_n C dX11_holdsFor_0 0 rfl ?_
  refine g_iconst C dX11_holdsFor_1 (v := 0) (by decide) ?_
  refine pf_X11_thrown C tw1243 dX11_holdsFor_2 ?_
  refine g_aload_n C dX11_holdsFor_5 0 rfl ?_
  refine g_aload_n C dX11_holdsFor_6 0 rfl ?_
  refine g_iload_n C dX11_holdsFor_7 1 rfl ?_
  refine g_callViW C dX11_holdsFor_8 (c_X11_noRule _ _ _ _ _ _ _ _ _ _) tw1578 tw1580 tp23 tw16 tw1581 (rv_X11 C) rfl ⟨by decide +kernel, by decide +kernel, rfl⟩ ⟨rfl, rfl⟩ (by rw [hR]; decide) (Nat.le_of_ble_eq_true rfl) (by rw [hR]; decide) (fun r_1 X1 M1 K1 h_2 => ?_)
  obtain ⟨er_1, hX1, hM1, hK1⟩ := h_2
  subst X1 M1 K1
  try simp only [sa_ap, si_ap, reduceIte, Nat.reduceEqDiff] at er_1
  refine g_iconst C dX11_holdsFor_11 (v := 1) (by decide) ?_
  refine g_callViW C dX11_holdsFor_12 (c_X11_fails _ _ _ _ _ _ _ _ _ _ _ (by rfl) (by decide)) tw1412 tw1414 tp14 tw16 tw1415 (rv_X11 C) rfl ⟨by decide +kernel, by decide +kernel, rfl⟩ ⟨rfl, rfl⟩ (by rw [hR]; decide) (Nat.le_of_ble_eq_true rfl) (by rw [hR]; decide) (fun r_3 X1 M1 K1 h_4 => ?_)
  obtain ⟨er_3, hX1, hM1, hK1⟩ := h_4
  subst X1 M1 K1
  try simp only [sa_ap, si_ap, reduceIte, Nat.reduceEqDiff] at er_3
  refine g_if_eq C dX11_holdsFor_15 (tgt := 22) (by decide) (fun c_15 => ?_) (fun c_15 => ?_)
  · try simp only [sa_ap, si_ap, reduceIte, Nat.reduceEqDiff, up_us, lg_cmp_lt, lg_cmp_gt, lg_cmp_le, lg_cmp_ge] at c_15
    have c_b15 := md_r0 er_3 c_15
    rw [if_pos c_b15]
    obtain ⟨j, hj, rfl⟩ := md_no_ix (p := p1) hz (by omega) (by rw [← er_1]; exact c_b15)
    have c_clj : (nI j).toNatClampNeg = j := nI_clamp (by omega)
    refine g_aload_n C dX11_holdsFor_22 0 rfl ?_
    refine gf_X11_held C tw1288 dX11_holdsFor_23 ?_
    refine g_iload_n C dX11_holdsFor_26 1 rfl ?_
    refine al_68 C (by omega) dX11_holdsFor_27 ?_
    refine g_iretW C hr hQ (Nat.le_refl _) (Nat.le_refl _) dX11_holdsFor_28 ?_
    exact ⟨(by first | with_reducible rfl | (subst er_1 er_3; first | with_reducible rfl | (simp only [sa_ap, si_ap, si_sa, sa_sa, sa_3, sa_4, sa_5, sa_6, sa_7, sa_8, up_us, up_up, xs_b, c_15, c_clj, c_b15]; done) | (simp [sa_ap, si_ap, si_sa, sa_sa, sa_3, sa_4, sa_5, sa_6, sa_7, sa_8, up_us, up_up, xs_b, c_15, c_clj, c_b15]; done))), rfl, (by first | with_reducible rfl | (subst er_1 er_3; first | with_reducible rfl | (simp only [sa_ap, si_ap, si_sa, sa_sa, sa_3, sa_4, sa_5, sa_6, sa_7, sa_8, up_us, up_up, xs_b, c_15, c_clj, c_b15]; done) | (simp [sa_ap, si_ap, si_sa, sa_sa, sa_3, sa_4, sa_5, sa_6, sa_7, sa_8, up_us, up_up, xs_b, c_15, c_clj, c_b15]; done))), rfl⟩
  · try simp only [sa_ap, si_ap, reduceIte, Nat.reduceEqDiff, up_us, lg_cmp_lt, lg_cmp_gt, lg_cmp_le, lg_cmp_ge] at c_15
    have c_b15 := md_r1 er_3 c_15
    rw [if_neg c_b15]
    refine g_iconst C dX11_holdsFor_18 (v := 0) (by decide) ?_
    refine g_goto C dX11_holdsFor_19 (tgt := 28) (by decide) ?_
    refine g_iretW C hr hQ (Nat.le_refl _) (Nat.le_refl _) dX11_holdsFor_28 ?_
    exact ⟨(by first | with_reducible rfl | (subst er_1 er_3; first | with_reducible rfl | (simp only [sa_ap, si_ap, si_sa, sa_sa, sa_3, sa_4, sa_5, sa_6, sa_7, sa_8, up_us, up_up, xs_b, c_15, c_b15]; done) | (simp [sa_ap, si_ap, si_sa, sa_sa, sa_3, sa_4, sa_5, sa_6, sa_7, sa_8, up_us, up_up, xs_b, c_15, c_b15]; done))), rfl, (by first | with_reducible rfl | (subst er_1 er_3; first | with_reducible rfl | (simp only [sa_ap, si_ap, si_sa, sa_sa, sa_3, sa_4, sa_5, sa_6, sa_7, sa_8, up_us, up_up, xs_b, c_15, c_b15]; done) | (simp [sa_ap, si_ap, si_sa, sa_sa, sa_3, sa_4, sa_5, sa_6, sa_7, sa_8, up_us, up_up, xs_b, c_15, c_b15]; done))), rfl⟩

set_option maxHeartbeats 400000 in
set_option maxRecDepth 100000 in
/-- holdsNow.holdsNow -/
theorem c_X11_holdsNow (l : Launch) (D : va_G) (cy : Nat → ClassId) (A : Nat → Prop) (ad sad : Nat → Nat) (X M : XF) (K : KF) (j : Nat) (hj : j < 12) (ho : okAb (M 63 j) (M 64 j)) (zs : Nat) (hzs : M 116 0 = nI zs) (hzk : zs ≤ K.2.1 2) (hk2 : K.2.1 2 < 2 ^ 31) (h0 : ∀ k : Nat, k < 3 → ¬ sn_cnt (M 57) k 3 = 0) : Met l yX11_holdsNow (wsA yX11_holdsNow cX11_holdsNow 2 (some .boolean)) ({ frames := 3, cells := 0, slots := 0, locals := 70 }) (PcW D cy A ad sad X M K [.ref (ad 42), .int (nI j)]) (QiW D cy A ad (fun r X1 M1 K1 => r = md_hn M K zs j ∧ X1 = X ∧ M1 = M ∧ K1 = K)) 0 0 A := by
  refine met_ofW [(0, .ref (ad 42)), (1, .int (nI j))] (by decide +kernel) (Nat.le_of_ble_eq_true rfl) rfl ?_
  intro G C hl hR hL hD hcy hA had hsa hr hQ
  subst hD hcy hA had hsa hl
  refine g_aload_n C dX11_holdsNow_0 0 rfl ?_
  refine g_iload_n C dX11_holdsNow_1 1 rfl ?_
  refine g_callViW C dX11_holdsNow_2 (c_X11_valueOf _ _ _ _ _ _ _ _ _ j hj ho zs hzs hzk hk2 h0) tw1601 tw1603 tp25 tw16 tw1604 (rv_X11 C) rfl ⟨by decide +kernel, by decide +kernel, rfl⟩ ⟨rfl, rfl⟩ (by rw [hR]; decide) (Nat.le_of_ble_eq_true rfl) (by rw [hR]; decide) (fun r_1 X1 M1 K1 h_2 => ?_)
  obtain ⟨er_1, hX1, hM1, hK1⟩ := h_2
  subst X1 M1 K1
  try simp only [sa_ap, si_ap, reduceIte, Nat.reduceEqDiff] at er_1
  refine g_i2l C dX11_holdsNow_5 ?_
  refine g_aload_n C dX11_holdsNow_6 0 rfl ?_
  refine gf_X11_least C tw1285 dX11_holdsNow_7 ?_
  refine g_iload_n C dX11_holdsNow_10 1 rfl ?_
  refine al_65 C (by omega) dX11_holdsNow_11 ?_
  refine g_i2l C dX11_holdsNow_12 ?_
  refine g_aload_n C dX11_holdsNow_13 0 rfl ?_
  refine gf_X11_greatest C tw1286 dX11_holdsNow_14 ?_
  refine g_iload_n C dX11_holdsNow_17 1 rfl ?_
  refine al_66 C (by omega) dX11_holdsNow_18 ?_
  refine g_i2l C dX11_holdsNow_19 ?_
  refine g_callSiW C dX11_holdsNow_20 (c_X11_in _ _ _ _ _ _ _ _ _ _ _ _) tw1406 tw1407 tw16 tw1408 rfl ⟨by decide +kernel, by decide +kernel, rfl⟩ ⟨rfl, rfl⟩ (by rw [hR]; decide) (Nat.le_of_ble_eq_true rfl) (by rw [hR]; decide) (fun r_3 X1 M1 K1 h_4 => ?_)
  obtain ⟨er_3, hX1, hM1, hK1⟩ := h_4
  subst X1 M1 K1
  try simp only [sa_ap, si_ap, reduceIte, Nat.reduceEqDiff] at er_3
  refine g_zretW C hr (by rw [er_3]; exact (isBo.na (lin_bo _ _ _)).1) hQ (Nat.le_refl _) (Nat.le_refl _) dX11_holdsNow_23 ?_
  exact ⟨(by first | with_reducible rfl | (subst er_1 er_3; first | with_reducible rfl | (simp only [sa_ap, si_ap, si_sa, sa_sa, sa_3, sa_4, sa_5, sa_6, sa_7, sa_8, md_hn, up_us, up_up, xs_b]; done) | (simp [sa_ap, si_ap, si_sa, sa_sa, sa_3, sa_4, sa_5, sa_6, sa_7, sa_8, md_hn, up_us, up_up, xs_b]; done))), (by first | with_reducible rfl | (subst er_1 er_3; first | with_reducible rfl | (simp only [sa_ap, si_ap, si_sa, sa_sa, sa_3, sa_4, sa_5, sa_6, sa_7, sa_8, md_hn, up_us, up_up, xs_b]; done) | (simp [sa_ap, si_ap, si_sa, sa_sa, sa_3, sa_4, sa_5, sa_6, sa_7, sa_8, md_hn, up_us, up_up, xs_b]; done))), rfl, rfl⟩

set_option maxHeartbeats 400000 in
set_option maxRecDepth 100000 in
/-- isMetNow.isMetNow -/
theorem c_X11_isMetNow (l : Launch) (D : va_G) (cy : Nat → ClassId) (A : Nat → Prop) (ad sad : Nat → Nat) (X M : XF) (K : KF) (j : Nat) (hj : j < 12) (ho : okAb (M 63 j) (M 64 j)) (zs : Nat) (hzs : M 116 0 = nI zs) (hzk : zs ≤ K.2.1 2) (hk2 : K.2.1 2 < 2 ^ 31) (h0 : ∀ k : Nat, k < 3 → ¬ sn_cnt (M 57) k 3 = 0) : Met l yX11_isMetNow (wsA yX11_isMetNow cX11_isMetNow 2 (some .boolean)) ({ frames := 4, cells := 0, slots := 0, locals := 91 }) (PcW D cy A ad sad X M K [.ref (ad 42), .int (nI j)]) (QiW D cy A ad (fun r X1 M1 K1 => r = md_met M K zs j ∧ X1 = X ∧ M1 = M ∧ K1 = K)) 0 0 A := by
  refine met_ofW [(0, .ref (ad 42)), (1, .int (nI j))] (by decide +kernel) (Nat.le_of_ble_eq_true rfl) rfl ?_
  intro G C hl hR hL hD hcy hA had hsa hr hQ
  subst hD hcy hA had hsa hl
  refine g_aload_n C dX11_isMetNow_0 0 rfl ?_
  refine g_iload_n C dX11_isMetNow_1 1 rfl ?_
  refine g_callViW C dX11_isMetNow_2 (c_X11_holdsNow _ _ _ _ _ _ _ _ _ j hj ho zs hzs hzk hk2 h0) tw1617 tw1619 tp27 tw16 tw1620 (rv_X11 C) rfl ⟨by decide +kernel, by decide +kernel, rfl⟩ ⟨rfl, rfl⟩ (by rw [hR]; decide) (Nat.le_of_ble_eq_true rfl) (by rw [hR]; decide) (fun r_1 X1 M1 K1 h_2 => ?_)
  obtain ⟨er_1, hX1, hM1, hK1⟩ := h_2
  subst X1 M1 K1
  try simp only [sa_ap, si_ap, reduceIte, Nat.reduceEqDiff] at er_1
  refine g_if_eq C dX11_isMetNow_5 (tgt := 23) (by decide) (fun c_5 => ?_) (fun c_5 => ?_)
  · try simp only [sa_ap, si_ap, reduceIte, Nat.reduceEqDiff, up_us, lg_cmp_lt, lg_cmp_gt, lg_cmp_le, lg_cmp_ge] at c_5
    refine g_aload_n C dX11_isMetNow_23 0 rfl ?_
    refine g_iload_n C dX11_isMetNow_24 1 rfl ?_
    refine g_callViW C dX11_isMetNow_25 (c_X11_isWaivedNow _ _ _ _ _ _ _ _ _ j hj) tw1589 tw1591 tp24 tw16 tw1592 (rv_X11 C) rfl ⟨by decide +kernel, by decide +kernel, rfl⟩ ⟨rfl, rfl⟩ (by rw [hR]; decide) (Nat.le_of_ble_eq_true rfl) (by rw [hR]; decide) (fun r_3 X1 M1 K1 h_4 => ?_)
    obtain ⟨er_3, hX1, hM1, hK1⟩ := h_4
    subst X1 M1 K1
    try simp only [sa_ap, si_ap, reduceIte, Nat.reduceEqDiff] at er_3
    refine g_if_eq C dX11_isMetNow_28 (tgt := 35) (by decide) (fun c_28 => ?_) (fun c_28 => ?_)
    · try simp only [sa_ap, si_ap, reduceIte, Nat.reduceEqDiff, up_us, lg_cmp_lt, lg_cmp_gt, lg_cmp_le, lg_cmp_ge] at c_28
      refine g_iconst C dX11_isMetNow_35 (v := 0) (by decide) ?_
      refine g_zretW C hr (by decide) hQ (Nat.le_refl _) (Nat.le_refl _) dX11_isMetNow_36 ?_
      exact ⟨(by first | with_reducible rfl | (subst er_1 er_3; first | with_reducible rfl | (simp only [sa_ap, si_ap, si_sa, sa_sa, sa_3, sa_4, sa_5, sa_6, sa_7, sa_8, md_met, up_us, up_up, xs_b, c_5, c_28]; done) | (simp [sa_ap, si_ap, si_sa, sa_sa, sa_3, sa_4, sa_5, sa_6, sa_7, sa_8, md_met, up_us, up_up, xs_b, c_5, c_28]; done))), (by first | with_reducible rfl | (subst er_1 er_3; first | with_reducible rfl | (simp only [sa_ap, si_ap, si_sa, sa_sa, sa_3, sa_4, sa_5, sa_6, sa_7, sa_8, md_met, up_us, up_up, xs_b, c_5, c_28]; done) | (simp [sa_ap, si_ap, si_sa, sa_sa, sa_3, sa_4, sa_5, sa_6, sa_7, sa_8, md_met, up_us, up_up, xs_b, c_5, c_28]; done))), rfl, rfl⟩
    · try simp only [sa_ap, si_ap, reduceIte, Nat.reduceEqDiff, up_us, lg_cmp_lt, lg_cmp_gt, lg_cmp_le, lg_cmp_ge] at c_28
      refine g_iconst C dX11_isMetNow_31 (v := 1) (by decide) ?_
      refine g_goto C dX11_isMetNow_32 (tgt := 36) (by decide) ?_
      refine g_zretW C hr (by decide) hQ (Nat.le_refl _) (Nat.le_refl _) dX11_isMetNow_36 ?_
      exact ⟨(by first | with_reducible rfl | (subst er_1 er_3; first | with_reducible rfl | (simp only [sa_ap, si_ap, si_sa, sa_sa, sa_3, sa_4, sa_5, sa_6, sa_7, sa_8, md_met, up_us, up_up, xs_b, c_5, c_28]; done) | (simp [sa_ap, si_ap, si_sa, sa_sa, sa_3, sa_4, sa_5, sa_6, sa_7, sa_8, md_met, up_us, up_up, xs_b, c_5, c_28]; done))), (by first | with_reducible rfl | (subst er_1 er_3; first | with_reducible rfl | (simp only [sa_ap, si_ap, si_sa, sa_sa, sa_3, sa_4, sa_5, sa_6, sa_7, sa_8, md_met, up_us, up_up, xs_b, c_5, c_28]; done) | (simp [sa_ap, si_ap, si_sa, sa_sa, sa_3, sa_4, sa_5, sa_6, sa_7, sa_8, md_met, up_us, up_up, xs_b, c_5, c_28]; done))), rfl, rfl⟩
  · try simp only [sa_ap, si_ap, reduceIte, Nat.reduceEqDiff, up_us, lg_cmp_lt, lg_cmp_gt, lg_cmp_le, lg_cmp_ge] at c_5
    refine g_aload_n C dX11_isMetNow_8 0 rfl ?_
    refine gf_X11_held C tw1288 dX11_isMetNow_9 ?_
    refine g_iload_n C dX11_isMetNow_12 1 rfl ?_
    refine al_68 C (by omega) dX11_isMetNow_13 ?_
    refine g_aload_n C dX11_isMetNow_14 0 rfl ?_
    refine gf_X11_seconds C tw1287 dX11_isMetNow_15 ?_
    refine g_iload_n C dX11_isMetNow_18 1 rfl ?_
    refine al_67 C (by omega) dX11_isMetNow_19 ?_
    refine g_icmp_ge C dX11_isMetNow_20 (tgt := 31) (by decide) (fun c_20 => ?_) (fun c_20 => ?_)
    · try simp only [sa_ap, si_ap, reduceIte, Nat.reduceEqDiff, up_us, lg_cmp_lt, lg_cmp_gt, lg_cmp_le, lg_cmp_ge] at c_20
      refine g_iconst C dX11_isMetNow_31 (v := 1) (by decide) ?_
      refine g_goto C dX11_isMetNow_32 (tgt := 36) (by decide) ?_
      refine g_zretW C hr (by decide) hQ (Nat.le_refl _) (Nat.le_refl _) dX11_isMetNow_36 ?_
      exact ⟨(by first | with_reducible rfl | (subst er_1; first | with_reducible rfl | (simp only [sa_ap, si_ap, si_sa, sa_sa, sa_3, sa_4, sa_5, sa_6, sa_7, sa_8, md_met, up_us, up_up, xs_b, c_5, c_20]; done) | (simp [sa_ap, si_ap, si_sa, sa_sa, sa_3, sa_4, sa_5, sa_6, sa_7, sa_8, md_met, up_us, up_up, xs_b, c_5, c_20]; done))), (by first | with_reducible rfl | (subst er_1; first | with_reducible rfl | (simp only [sa_ap, si_ap, si_sa, sa_sa, sa_3, sa_4, sa_5, sa_6, sa_7, sa_8, md_met, up_us, up_up, xs_b, c_5, c_20]; done) | (simp [sa_ap, si_ap, si_sa, sa_sa, sa_3, sa_4, sa_5, sa_6, sa_7, sa_8, md_met, up_us, up_up, xs_b, c_5, c_20]; done))), rfl, rfl⟩
    · try simp only [sa_ap, si_ap, reduceIte, Nat.reduceEqDiff, up_us, lg_cmp_lt, lg_cmp_gt, lg_cmp_le, lg_cmp_ge] at c_20
      refine g_aload_n C dX11_isMetNow_23 0 rfl ?_
      refine g_iload_n C dX11_isMetNow_24 1 rfl ?_
      refine g_callViW C dX11_isMetNow_25 (c_X11_isWaivedNow _ _ _ _ _ _ _ _ _ j hj) tw1589 tw1591 tp24 tw16 tw1592 (rv_X11 C) rfl ⟨by decide +kernel, by decide +kernel, rfl⟩ ⟨rfl, rfl⟩ (by rw [hR]; decide) (Nat.le_of_ble_eq_true rfl) (by rw [hR]; decide) (fun r_5 X1 M1 K1 h_6 => ?_)
      obtain ⟨er_5, hX1, hM1, hK1⟩ := h_6
      subst X1 M1 K1
      try simp only [sa_ap, si_ap, reduceIte, Nat.reduceEqDiff] at er_5
      refine g_if_eq C dX11_isMetNow_28 (tgt := 35) (by decide) (fun c_28 => ?_) (fun c_28 => ?_)
      · try simp only [sa_ap, si_ap, reduceIte, Nat.reduceEqDiff, up_us, lg_cmp_lt, lg_cmp_gt, lg_cmp_le, lg_cmp_ge] at c_28
        refine g_iconst C dX11_isMetNow_35 (v := 0) (by decide) ?_
        refine g_zretW C hr (by decide) hQ (Nat.le_refl _) (Nat.le_refl _) dX11_isMetNow_36 ?_
        exact ⟨(by first | with_reducible rfl | (subst er_1 er_5; first | with_reducible rfl | (simp only [sa_ap, si_ap, si_sa, sa_sa, sa_3, sa_4, sa_5, sa_6, sa_7, sa_8, md_met, up_us, up_up, xs_b, c_5, c_20, c_28]; done) | (simp [sa_ap, si_ap, si_sa, sa_sa, sa_3, sa_4, sa_5, sa_6, sa_7, sa_8, md_met, up_us, up_up, xs_b, c_5, c_20, c_28]; done))), (by first | with_reducible rfl | (subst er_1 er_5; first | with_reducible rfl | (simp only [sa_ap, si_ap, si_sa, sa_sa, sa_3, sa_4, sa_5, sa_6, sa_7, sa_8, md_met, up_us, up_up, xs_b, c_5, c_20, c_28]; done) | (simp [sa_ap, si_ap, si_sa, sa_sa, sa_3, sa_4, sa_5, sa_6, sa_7, sa_8, md_met, up_us, up_up, xs_b, c_5, c_20, c_28]; done))), rfl, rfl⟩
      · try simp only [sa_ap, si_ap, reduceIte, Nat.reduceEqDiff, up_us, lg_cmp_lt, lg_cmp_gt, lg_cmp_le, lg_cmp_ge] at c_28
        refine g_iconst C dX11_isMetNow_31 (v := 1) (by decide) ?_
        refine g_goto C dX11_isMetNow_32 (tgt := 36) (by decide) ?_
        refine g_zretW C hr (by decide) hQ (Nat.le_refl _) (Nat.le_refl _) dX11_isMetNow_36 ?_
        exact ⟨(by first | with_reducible rfl | (subst er_1 er_5; first | with_reducible rfl | (simp only [sa_ap, si_ap, si_sa, sa_sa, sa_3, sa_4, sa_5, sa_6, sa_7, sa_8, md_met, up_us, up_up, xs_b, c_5, c_20, c_28]; done) | (simp [sa_ap, si_ap, si_sa, sa_sa, sa_3, sa_4, sa_5, sa_6, sa_7, sa_8, md_met, up_us, up_up, xs_b, c_5, c_20, c_28]; done))), (by first | with_reducible rfl | (subst er_1 er_5; first | with_reducible rfl | (simp only [sa_ap, si_ap, si_sa, sa_sa, sa_3, sa_4, sa_5, sa_6, sa_7, sa_8, md_met, up_us, up_up, xs_b, c_5, c_20, c_28]; done) | (simp [sa_ap, si_ap, si_sa, sa_sa, sa_3, sa_4, sa_5, sa_6, sa_7, sa_8, md_met, up_us, up_up, xs_b, c_5, c_20, c_28]; done))), rfl, rfl⟩

set_option maxHeartbeats 400000 in
set_option maxRecDepth 100000 in
/-- isMet.isMet -/
theorem c_X11_isMet (l : Launch) (D : va_G) (cy : Nat → ClassId) (A : Nat → Prop) (ad sad : Nat → Nat) (X M : XF) (K : KF) (p1 : Int32) (z : Nat) (hz : M 117 0 = nI z) (hzl : z ≤ 12) (ho : ∀ j : Nat, j < z → okAb (M 63 j) (M 64 j)) (zs : Nat) (hzs : M 116 0 = nI zs) (hzk : zs ≤ K.2.1 2) (hk2 : K.2.1 2 < 2 ^ 31) (h0 : ∀ k : Nat, k < 3 → ¬ sn_cnt (M 57) k 3 = 0) : Met l yX11_isMet (wsA yX11_isMet cX11_isMet 2 (some .boolean)) ({ frames := 5, cells := 0, slots := 0, locals := 112 }) (PcW D cy A ad sad X M K [.ref (ad 42), .int p1]) (QiW D cy A ad (fun r X1 M1 K1 => r = (if xs_b (md_no p1 (M 117 0)) = 0 then (if md_met M K zs p1.toNatClampNeg = 0 then 0 else 1) else 0) ∧ X1 = X ∧ M1 = (if xs_b (md_no p1 (M 117 0)) = 0 then si M 100 0 else si M 100 (xs_b (md_no p1 (M 117 0)))) ∧ K1 = K)) 0 0 A := by
  refine met_ofW [(0, .ref (ad 42)), (1, .int p1)] (by decide +kernel) (Nat.le_of_ble_eq_true rfl) rfl ?_
  intro G C hl hR hL hD hcy hA had hsa hr hQ
  subst hD hcy hA had hsa hl
  refine g_aload_n C dX11_isMet_0 0 rfl ?_
  refine g_iconst C dX11_isMet_1 (v := 0) (by decide) ?_
  refine pf_X11_thrown C tw1243 dX11_isMet_2 ?_
  refine g_aload_n C dX11_isMet_5 0 rfl ?_
  refine g_aload_n C dX11_isMet_6 0 rfl ?_
  refine g_iload_n C dX11_isMet_7 1 rfl ?_
  refine g_callViW C dX11_isMet_8 (c_X11_noRule _ _ _ _ _ _ _ _ _ _) tw1578 tw1580 tp23 tw16 tw1581 (rv_X11 C) rfl ⟨by decide +kernel, by decide +kernel, rfl⟩ ⟨rfl, rfl⟩ (by rw [hR]; decide) (Nat.le_of_ble_eq_true rfl) (by rw [hR]; decide) (fun r_1 X1 M1 K1 h_2 => ?_)
  obtain ⟨er_1, hX1, hM1, hK1⟩ := h_2
  subst X1 M1 K1
  try simp only [sa_ap, si_ap, reduceIte, Nat.reduceEqDiff] at er_1
  refine g_iconst C dX11_isMet_11 (v := 1) (by decide) ?_
  refine g_callViW C dX11_isMet_12 (c_X11_fails _ _ _ _ _ _ _ _ _ _ _ (by rfl) (by decide)) tw1412 tw1414 tp14 tw16 tw1415 (rv_X11 C) rfl ⟨by decide +kernel, by decide +kernel, rfl⟩ ⟨rfl, rfl⟩ (by rw [hR]; decide) (Nat.le_of_ble_eq_true rfl) (by rw [hR]; decide) (fun r_3 X1 M1 K1 h_4 => ?_)
  obtain ⟨er_3, hX1, hM1, hK1⟩ := h_4
  subst X1 M1 K1
  try simp only [sa_ap, si_ap, reduceIte, Nat.reduceEqDiff] at er_3
  refine g_if_ne C dX11_isMet_15 (tgt := 30) (by decide) (fun c_15 => ?_) (fun c_15 => ?_)
  · try simp only [sa_ap, si_ap, reduceIte, Nat.reduceEqDiff, up_us, lg_cmp_lt, lg_cmp_gt, lg_cmp_le, lg_cmp_ge] at c_15
    have c_b15 := md_r1 er_3 c_15
    rw [if_neg c_b15]
    refine g_iconst C dX11_isMet_30 (v := 0) (by decide) ?_
    refine g_zretW C hr (by decide) hQ (Nat.le_refl _) (Nat.le_refl _) dX11_isMet_31 ?_
    exact ⟨(by first | with_reducible rfl | (subst er_1 er_3; first | with_reducible rfl | (simp only [sa_ap, si_ap, si_sa, sa_sa, sa_3, sa_4, sa_5, sa_6, sa_7, sa_8, md_met_t, up_us, up_up, xs_b, c_15, c_b15]; done) | (simp [sa_ap, si_ap, si_sa, sa_sa, sa_3, sa_4, sa_5, sa_6, sa_7, sa_8, md_met_t, up_us, up_up, xs_b, c_15, c_b15]; done))), rfl, (by first | with_reducible rfl | (subst er_1 er_3; first | with_reducible rfl | (simp only [sa_ap, si_ap, si_sa, sa_sa, sa_3, sa_4, sa_5, sa_6, sa_7, sa_8, md_met_t, up_us, up_up, xs_b, c_15, c_b15]; done) | (simp [sa_ap, si_ap, si_sa, sa_sa, sa_3, sa_4, sa_5, sa_6, sa_7, sa_8, md_met_t, up_us, up_up, xs_b, c_15, c_b15]; done))), rfl⟩
  · try simp only [sa_ap, si_ap, reduceIte, Nat.reduceEqDiff, up_us, lg_cmp_lt, lg_cmp_gt, lg_cmp_le, lg_cmp_ge] at c_15
    have c_b15 := md_r0 er_3 c_15
    rw [if_pos c_b15]
    obtain ⟨j, hj, rfl⟩ := md_no_ix (p := p1) hz (by omega) (by rw [← er_1]; exact c_b15)
    have c_clj : (nI j).toNatClampNeg = j := nI_clamp (by omega)
    refine g_aload_n C dX11_isMet_18 0 rfl ?_
    refine g_iload_n C dX11_isMet_19 1 rfl ?_
    refine g_callViW C dX11_isMet_20 (c_X11_isMetNow _ _ _ _ _ _ _ (si M 100 0) _ j (by omega) (ho j hj) zs hzs hzk hk2 h0) tw1613 tw1615 tp26 tw16 tw1616 (rv_X11 C) rfl ⟨by decide +kernel, by decide +kernel, rfl⟩ ⟨rfl, rfl⟩ (by rw [hR]; decide) (Nat.le_of_ble_eq_true rfl) (by rw [hR]; decide) (fun r_5 X1 M1 K1 h_6 => ?_)
    obtain ⟨er_5, hX1, hM1, hK1⟩ := h_6
    subst X1 M1 K1
    try simp only [sa_ap, si_ap, reduceIte, Nat.reduceEqDiff] at er_5
    rw [si_sa, md_met_t] at er_5
    refine g_if_eq C dX11_isMet_23 (tgt := 30) (by decide) (fun c_23 => ?_) (fun c_23 => ?_)
    · try simp only [sa_ap, si_ap, reduceIte, Nat.reduceEqDiff, up_us, lg_cmp_lt, lg_cmp_gt, lg_cmp_le, lg_cmp_ge] at c_23
      refine g_iconst C dX11_isMet_30 (v := 0) (by decide) ?_
      refine g_zretW C hr (by decide) hQ (Nat.le_refl _) (Nat.le_refl _) dX11_isMet_31 ?_
      exact ⟨(by first | with_reducible rfl | (subst er_1 er_3 er_5; first | with_reducible rfl | (simp only [sa_ap, si_ap, si_sa, sa_sa, sa_3, sa_4, sa_5, sa_6, sa_7, sa_8, md_met_t, up_us, up_up, xs_b, c_15, c_clj, c_b15, c_23]; done) | (simp [sa_ap, si_ap, si_sa, sa_sa, sa_3, sa_4, sa_5, sa_6, sa_7, sa_8, md_met_t, up_us, up_up, xs_b, c_15, c_clj, c_b15, c_23]; done))), rfl, (by first | with_reducible rfl | (subst er_1 er_3 er_5; first | with_reducible rfl | (simp only [sa_ap, si_ap, si_sa, sa_sa, sa_3, sa_4, sa_5, sa_6, sa_7, sa_8, md_met_t, up_us, up_up, xs_b, c_15, c_clj, c_b15, c_23]; done) | (simp [sa_ap, si_ap, si_sa, sa_sa, sa_3, sa_4, sa_5, sa_6, sa_7, sa_8, md_met_t, up_us, up_up, xs_b, c_15, c_clj, c_b15, c_23]; done))), rfl⟩
    · try simp only [sa_ap, si_ap, reduceIte, Nat.reduceEqDiff, up_us, lg_cmp_lt, lg_cmp_gt, lg_cmp_le, lg_cmp_ge] at c_23
      refine g_iconst C dX11_isMet_26 (v := 1) (by decide) ?_
      refine g_goto C dX11_isMet_27 (tgt := 31) (by decide) ?_
      refine g_zretW C hr (by decide) hQ (Nat.le_refl _) (Nat.le_refl _) dX11_isMet_31 ?_
      exact ⟨(by first | with_reducible rfl | (subst er_1 er_3 er_5; first | with_reducible rfl | (simp only [sa_ap, si_ap, si_sa, sa_sa, sa_3, sa_4, sa_5, sa_6, sa_7, sa_8, md_met_t, up_us, up_up, xs_b, c_15, c_clj, c_b15, c_23]; done) | (simp [sa_ap, si_ap, si_sa, sa_sa, sa_3, sa_4, sa_5, sa_6, sa_7, sa_8, md_met_t, up_us, up_up, xs_b, c_15, c_clj, c_b15, c_23]; done))), rfl, (by first | with_reducible rfl | (subst er_1 er_3 er_5; first | with_reducible rfl | (simp only [sa_ap, si_ap, si_sa, sa_sa, sa_3, sa_4, sa_5, sa_6, sa_7, sa_8, md_met_t, up_us, up_up, xs_b, c_15, c_clj, c_b15, c_23]; done) | (simp [sa_ap, si_ap, si_sa, sa_sa, sa_3, sa_4, sa_5, sa_6, sa_7, sa_8, md_met_t, up_us, up_up, xs_b, c_15, c_clj, c_b15, c_23]; done))), rfl⟩

set_option maxHeartbeats 400000 in
set_option maxRecDepth 100000 in
/-- goTanks.goTanks -/
theorem c_X11_goTanks (l : Launch) (D : va_G) (cy : Nat → ClassId) (A : Nat → Prop) (ad sad : Nat → Nat) (X M : XF) (K : KF) : Met l yX11_goTanks (wsA yX11_goTanks cX11_goTanks 2 none) ({ frames := 1, cells := 0, slots := 0, locals := 21 }) (PcW D cy A ad sad X M K [.ref (ad 42)]) (QvW D cy A ad (fun X1 M1 K1 => X1 = X ∧ M1 = sa M 46 (md_tk (M 43) (M 44) (M 45) (M 47) (M 46) 3) ∧ K1 = K)) 0 0 A := by
  refine met_ofW [(0, .ref (ad 42))] (by decide +kernel) (Nat.le_of_ble_eq_true rfl) rfl ?_
  intro G C hl hR hL hD hcy hA had hsa hr hQ
  subst hD hcy hA had hsa hl
  refine g_iconst C dX11_goTanks_0 (v := 0) (by decide) ?_
  refine g_istore_n C dX11_goTanks_1 (L' := [(1, .int 0), (0, .ref (gad G 42))]) rfl (by rw [hL]; decide) ?_
  have lp2 : ∀ (n i : Nat) (hi : i + n = 3), GH G (WX G X (sa M 46 (md_tk (M 43) (M 44) (M 45) (M 47) (M 46) i)) K) [(0, .ref (gad G 42)), (1, .int (nI i))] 0 0 2 [] := by
    intro n
    induction n with
    | zero =>
      intro i hi
      obtain rfl : i = 3 := by omega
      refine g_iload_n C dX11_goTanks_2 1 rfl ?_
      refine g_iconst C dX11_goTanks_3 (v := 3) (by decide) ?_
      refine g_icmp_ge C dX11_goTanks_4 (tgt := 88) (by decide) (fun c_4 => ?_) (fun c_4 => absurd (nI_le (a := 3) (b := 3) (Nat.le_refl _) (by omega)) c_4)
      refine g_vretW C hr hQ (Nat.le_refl _) (Nat.le_refl _) dX11_goTanks_88 ?_
      exact ⟨(by first | with_reducible rfl | (first | with_reducible rfl | (simp only [sa_ap, si_ap, si_sa, sa_sa, sa_3, sa_4, sa_5, sa_6, sa_7, sa_8, md_tk, md_tk1, up_us, up_up, xs_b]; done) | (simp [sa_ap, si_ap, si_sa, sa_sa, sa_3, sa_4, sa_5, sa_6, sa_7, sa_8, md_tk, md_tk1, up_us, up_up, xs_b]; done))), rfl, rfl⟩
    | succ n ih =>
      intro i hi
      refine g_iload_n C dX11_goTanks_2 1 rfl ?_
      refine g_iconst C dX11_goTanks_3 (v := 3) (by decide) ?_
      refine g_icmp_ge C dX11_goTanks_4 (tgt := 88) (by decide) (fun c_4 => absurd c_4 (nI_ge (a := i) (b := 3) (by omega) (by omega))) (fun c_4 => ?_)
      refine g_aload_n C dX11_goTanks_7 0 rfl ?_
      refine gf_X11_inTank C tw1261 dX11_goTanks_8 ?_
      refine g_iload_n C dX11_goTanks_11 1 rfl ?_
      refine g_dup2 C dX11_goTanks_12 rfl rfl ?_
      refine al_46 C (by omega) dX11_goTanks_13 ?_
      refine g_aload_n C dX11_goTanks_14 0 rfl ?_
      refine gf_X11_inTank C tw1261 dX11_goTanks_15 ?_
      refine g_iload_n C dX11_goTanks_18 1 rfl ?_
      refine al_46 C (by omega) dX11_goTanks_19 ?_
      refine g_i2l C dX11_goTanks_20 ?_
      refine g_aload_n C dX11_goTanks_21 0 rfl ?_
      refine gf_X11_boil C tw1260 dX11_goTanks_22 ?_
      refine g_iload_n C dX11_goTanks_25 1 rfl ?_
      refine al_45 C (by omega) dX11_goTanks_26 ?_
      refine g_i2l C dX11_goTanks_27 ?_
      refine g_lmul C dX11_goTanks_28 ?_
      refine g_ldc2 C dX11_goTanks_29 tw1410 ?_
      refine g_ldiv C dX11_goTanks_32 (by decide) ?_
      refine g_l2i C dX11_goTanks_33 ?_
      refine g_isub C dX11_goTanks_34 ?_
      refine as_46 C (by omega) dX11_goTanks_35 ?_
      refine g_aload_n C dX11_goTanks_36 0 rfl ?_
      refine gf_X11_inTank C tw1261 dX11_goTanks_37 ?_
      refine g_iload_n C dX11_goTanks_40 1 rfl ?_
      refine g_aload_n C dX11_goTanks_41 0 rfl ?_
      refine gf_X11_isOpen C tw1262 dX11_goTanks_42 ?_
      refine g_iload_n C dX11_goTanks_45 1 rfl ?_
      refine al_47 C (by omega) dX11_goTanks_46 ?_
      refine g_if_eq C dX11_goTanks_47 (tgt := 75) (by decide) (fun c_47 => ?_) (fun c_47 => ?_)
      · try simp only [sa_ap, si_ap, reduceIte, Nat.reduceEqDiff, up_us, lg_cmp_lt, lg_cmp_gt, lg_cmp_le, lg_cmp_ge] at c_47
        refine g_aload_n C dX11_goTanks_75 0 rfl ?_
        refine gf_X11_inTank C tw1261 dX11_goTanks_76 ?_
        refine g_iload_n C dX11_goTanks_79 1 rfl ?_
        refine al_46 C (by omega) dX11_goTanks_80 ?_
        refine as_46 C (by omega) dX11_goTanks_81 ?_
        refine g_iinc C dX11_goTanks_82 1 rfl (v := nI (i + 1)) (nI_1 _) (L' := [(1, .int (nI (i + 1))), (0, .ref (gad G 42))]) rfl (by rw [hL]; decide) ?_
        refine g_goto C dX11_goTanks_85 (tgt := 2) (by decide) ?_
        exact g_sub [1, 0] rfl (g_M (by first | with_reducible rfl | (first | with_reducible rfl | (simp only [sa_ap, si_ap, si_sa, sa_sa, sa_3, sa_4, sa_5, sa_6, sa_7, sa_8, md_tk, md_tk1, up_us, up_up, xs_b, c_47]; done) | (simp [sa_ap, si_ap, si_sa, sa_sa, sa_3, sa_4, sa_5, sa_6, sa_7, sa_8, md_tk, md_tk1, up_us, up_up, xs_b, c_47]; done))) (ih (i + 1) (by omega)))
      · try simp only [sa_ap, si_ap, reduceIte, Nat.reduceEqDiff, up_us, lg_cmp_lt, lg_cmp_gt, lg_cmp_le, lg_cmp_ge] at c_47
        refine g_aload_n C dX11_goTanks_50 0 rfl ?_
        refine gf_X11_room C tw1258 dX11_goTanks_51 ?_
        refine g_iload_n C dX11_goTanks_54 1 rfl ?_
        refine al_43 C (by omega) dX11_goTanks_55 ?_
        refine g_aload_n C dX11_goTanks_56 0 rfl ?_
        refine gf_X11_inTank C tw1261 dX11_goTanks_57 ?_
        refine g_iload_n C dX11_goTanks_60 1 rfl ?_
        refine al_46 C (by omega) dX11_goTanks_61 ?_
        refine g_aload_n C dX11_goTanks_62 0 rfl ?_
        refine gf_X11_rate C tw1259 dX11_goTanks_63 ?_
        refine g_iload_n C dX11_goTanks_66 1 rfl ?_
        refine al_44 C (by omega) dX11_goTanks_67 ?_
        refine g_iadd C dX11_goTanks_68 ?_
        refine g_min C dX11_goTanks_69 tw1416 (Nat.le_of_ble_eq_true rfl) (by rw [hR]; decide) ?_
        refine g_topi (y := tk_min _ _) rfl ?_
        refine g_goto C dX11_goTanks_72 (tgt := 81) (by decide) ?_
        refine as_46 C (by omega) dX11_goTanks_81 ?_
        refine g_iinc C dX11_goTanks_82 1 rfl (v := nI (i + 1)) (nI_1 _) (L' := [(1, .int (nI (i + 1))), (0, .ref (gad G 42))]) rfl (by rw [hL]; decide) ?_
        refine g_goto C dX11_goTanks_85 (tgt := 2) (by decide) ?_
        exact g_sub [1, 0] rfl (g_M (by first | with_reducible rfl | (first | with_reducible rfl | (simp only [sa_ap, si_ap, si_sa, sa_sa, sa_3, sa_4, sa_5, sa_6, sa_7, sa_8, md_tk, md_tk1, up_us, up_up, xs_b, c_47]; done) | (simp [sa_ap, si_ap, si_sa, sa_sa, sa_3, sa_4, sa_5, sa_6, sa_7, sa_8, md_tk, md_tk1, up_us, up_up, xs_b, c_47]; done))) (ih (i + 1) (by omega)))
  exact g_sub [1, 0] rfl (g_M (sa_self M 46).symm (lp2 (3) 0 (by omega)))

set_option maxHeartbeats 400000 in
set_option maxRecDepth 100000 in
/-- areDone.areDone -/
theorem c_X11_areDone (l : Launch) (D : va_G) (cy : Nat → ClassId) (A : Nat → Prop) (ad sad : Nat → Nat) (X M : XF) (K : KF) (p1 : Int32) (z : Nat) (hz : M 113 0 = nI z) (hzl : z ≤ 16) : Met l yX11_areDone (wsA yX11_areDone cX11_areDone 4 (some .boolean)) ({ frames := 0, cells := 0, slots := 0, locals := 0 }) (PcW D cy A ad sad X M K [.ref (ad 42), .int p1]) (QiW D cy A ad (fun r X1 M1 K1 => r = md_ad (M 51) p1 z ∧ X1 = X ∧ M1 = M ∧ K1 = K)) 0 0 A := by
  refine met_ofW [(0, .ref (ad 42)), (1, .int p1)] (by decide +kernel) (Nat.le_of_ble_eq_true rfl) rfl ?_
  intro G C hl hR hL hD hcy hA had hsa hr hQ
  subst hD hcy hA had hsa hl
  refine g_iconst C dX11_areDone_0 (v := 1) (by decide) ?_
  refine g_istore_n C dX11_areDone_1 (L' := [(2, .int 1), (0, .ref (gad G 42)), (1, .int p1)]) rfl (by rw [hL]; decide) ?_
  refine g_iconst C dX11_areDone_2 (v := 0) (by decide) ?_
  refine g_istore_n C dX11_areDone_3 (L' := [(3, .int 0), (2, .int 1), (0, .ref (gad G 42)), (1, .int p1)]) rfl (by rw [hL]; decide) ?_
  have lp4 : ∀ (n i : Nat) (a : Int32) (hi : i + n = z) (ha : a = md_ad (M 51) p1 i), GH G (WX G X M K) [(0, .ref (gad G 42)), (1, .int p1), (2, .int a), (3, .int (nI i))] 0 0 4 [] := by
    intro n
    induction n with
    | zero =>
      intro i a hi ha
      obtain rfl : z = i := by omega
      refine g_iload_n C dX11_areDone_4 3 rfl ?_
      refine g_aload_n C dX11_areDone_5 0 rfl ?_
      refine gf_X11_steps C tw1263 dX11_areDone_6 ?_
      refine g_topi hz ?_
      refine g_icmp_ge C dX11_areDone_9 (tgt := 47) (by decide) (fun c_9 => ?_) (fun c_9 => absurd (nI_le (a := z) (b := z) (Nat.le_refl _) (by omega)) c_9)
      refine g_iload_n C dX11_areDone_47 2 rfl ?_
      refine g_zretW C hr (by rw [ha]; exact (isBo.na (md_ad_bo _ _ _)).1) hQ (Nat.le_refl _) (Nat.le_refl _) dX11_areDone_48 ?_
      exact ⟨(by first | with_reducible rfl | (subst ha; first | with_reducible rfl | (simp only [sa_ap, si_ap, si_sa, sa_sa, sa_3, sa_4, sa_5, sa_6, sa_7, sa_8, md_ad, up_us, up_up, xs_b]; done) | (simp [sa_ap, si_ap, si_sa, sa_sa, sa_3, sa_4, sa_5, sa_6, sa_7, sa_8, md_ad, up_us, up_up, xs_b]; done))), (by first | with_reducible rfl | (subst ha; first | with_reducible rfl | (simp only [sa_ap, si_ap, si_sa, sa_sa, sa_3, sa_4, sa_5, sa_6, sa_7, sa_8, md_ad, up_us, up_up, xs_b]; done) | (simp [sa_ap, si_ap, si_sa, sa_sa, sa_3, sa_4, sa_5, sa_6, sa_7, sa_8, md_ad, up_us, up_up, xs_b]; done))), rfl, rfl⟩
    | succ n ih =>
      intro i a hi ha
      refine g_iload_n C dX11_areDone_4 3 rfl ?_
      refine g_aload_n C dX11_areDone_5 0 rfl ?_
      refine gf_X11_steps C tw1263 dX11_areDone_6 ?_
      refine g_topi hz ?_
      refine g_icmp_ge C dX11_areDone_9 (tgt := 47) (by decide) (fun c_9 => absurd c_9 (nI_ge (a := i) (b := z) (by omega) (by omega))) (fun c_9 => ?_)
      refine g_iload_n C dX11_areDone_12 2 rfl ?_
      refine g_if_eq C dX11_areDone_13 (tgt := 39) (by decide) (fun c_13 => ?_) (fun c_13 => ?_)
      · try simp only [sa_ap, si_ap, reduceIte, Nat.reduceEqDiff, up_us, lg_cmp_lt, lg_cmp_gt, lg_cmp_le, lg_cmp_ge] at c_13
        refine g_iconst C dX11_areDone_39 (v := 0) (by decide) ?_
        refine g_istore_n C dX11_areDone_40 (L' := [(2, .int 0), (0, .ref (gad G 42)), (1, .int p1), (3, .int (nI i))]) rfl (by rw [hL]; decide) ?_
        refine g_iinc C dX11_areDone_41 3 rfl (v := nI (i + 1)) (nI_1 _) (L' := [(3, .int (nI (i + 1))), (2, .int 0), (0, .ref (gad G 42)), (1, .int p1)]) rfl (by rw [hL]; decide) ?_
        refine g_goto C dX11_areDone_44 (tgt := 4) (by decide) ?_
        exact g_sub [2, 3, 1, 0] rfl (ih (i + 1) _ (by omega) (by first | with_reducible rfl | (subst ha; first | with_reducible rfl | (simp only [sa_ap, si_ap, si_sa, sa_sa, sa_3, sa_4, sa_5, sa_6, sa_7, sa_8, md_ad, up_us, up_up, xs_b, c_13]; done) | (simp [sa_ap, si_ap, si_sa, sa_sa, sa_3, sa_4, sa_5, sa_6, sa_7, sa_8, md_ad, up_us, up_up, xs_b, c_13]; done))))
      · try simp only [sa_ap, si_ap, reduceIte, Nat.reduceEqDiff, up_us, lg_cmp_lt, lg_cmp_gt, lg_cmp_le, lg_cmp_ge] at c_13
        refine g_iload_n C dX11_areDone_16 1 rfl ?_
        refine g_iload_n C dX11_areDone_17 3 rfl ?_
        refine g_ishr C dX11_areDone_18 ?_
        refine g_iconst C dX11_areDone_19 (v := 1) (by decide) ?_
        refine g_iand C dX11_areDone_20 ?_
        refine g_if_eq C dX11_areDone_21 (tgt := 35) (by decide) (fun c_21 => ?_) (fun c_21 => ?_)
        · try simp only [sa_ap, si_ap, reduceIte, Nat.reduceEqDiff, up_us, lg_cmp_lt, lg_cmp_gt, lg_cmp_le, lg_cmp_ge] at c_21
          refine g_iconst C dX11_areDone_35 (v := 1) (by decide) ?_
          refine g_goto C dX11_areDone_36 (tgt := 40) (by decide) ?_
          refine g_istore_n C dX11_areDone_40 (L' := [(2, .int 1), (0, .ref (gad G 42)), (1, .int p1), (3, .int (nI i))]) rfl (by rw [hL]; decide) ?_
          refine g_iinc C dX11_areDone_41 3 rfl (v := nI (i + 1)) (nI_1 _) (L' := [(3, .int (nI (i + 1))), (2, .int 1), (0, .ref (gad G 42)), (1, .int p1)]) rfl (by rw [hL]; decide) ?_
          refine g_goto C dX11_areDone_44 (tgt := 4) (by decide) ?_
          exact g_sub [2, 3, 1, 0] rfl (ih (i + 1) _ (by omega) (by first | with_reducible rfl | (subst ha; first | with_reducible rfl | (simp only [sa_ap, si_ap, si_sa, sa_sa, sa_3, sa_4, sa_5, sa_6, sa_7, sa_8, md_ad, up_us, up_up, xs_b, c_13, c_21]; done) | (simp [sa_ap, si_ap, si_sa, sa_sa, sa_3, sa_4, sa_5, sa_6, sa_7, sa_8, md_ad, up_us, up_up, xs_b, c_13, c_21]; done))))
        · try simp only [sa_ap, si_ap, reduceIte, Nat.reduceEqDiff, up_us, lg_cmp_lt, lg_cmp_gt, lg_cmp_le, lg_cmp_ge] at c_21
          refine g_aload_n C dX11_areDone_24 0 rfl ?_
          refine gf_X11_stepState C tw1267 dX11_areDone_25 ?_
          refine g_iload_n C dX11_areDone_28 3 rfl ?_
          refine al_51 C (by omega) dX11_areDone_29 ?_
          refine g_bipush C dX11_areDone_30 (v := 101) (by decide) ?_
          refine g_icmp_ne C dX11_areDone_32 (tgt := 39) (by decide) (fun c_32 => ?_) (fun c_32 => ?_)
          · try simp only [sa_ap, si_ap, reduceIte, Nat.reduceEqDiff, up_us, lg_cmp_lt, lg_cmp_gt, lg_cmp_le, lg_cmp_ge] at c_32
            refine g_iconst C dX11_areDone_39 (v := 0) (by decide) ?_
            refine g_istore_n C dX11_areDone_40 (L' := [(2, .int 0), (0, .ref (gad G 42)), (1, .int p1), (3, .int (nI i))]) rfl (by rw [hL]; decide) ?_
            refine g_iinc C dX11_areDone_41 3 rfl (v := nI (i + 1)) (nI_1 _) (L' := [(3, .int (nI (i + 1))), (2, .int 0), (0, .ref (gad G 42)), (1, .int p1)]) rfl (by rw [hL]; decide) ?_
            refine g_goto C dX11_areDone_44 (tgt := 4) (by decide) ?_
            exact g_sub [2, 3, 1, 0] rfl (ih (i + 1) _ (by omega) (by first | with_reducible rfl | (subst ha; first | with_reducible rfl | (simp only [sa_ap, si_ap, si_sa, sa_sa, sa_3, sa_4, sa_5, sa_6, sa_7, sa_8, md_ad, up_us, up_up, xs_b, c_13, c_21, c_32]; done) | (simp [sa_ap, si_ap, si_sa, sa_sa, sa_3, sa_4, sa_5, sa_6, sa_7, sa_8, md_ad, up_us, up_up, xs_b, c_13, c_21, c_32]; done))))
          · try simp only [sa_ap, si_ap, reduceIte, Nat.reduceEqDiff, up_us, lg_cmp_lt, lg_cmp_gt, lg_cmp_le, lg_cmp_ge] at c_32
            refine g_iconst C dX11_areDone_35 (v := 1) (by decide) ?_
            refine g_goto C dX11_areDone_36 (tgt := 40) (by decide) ?_
            refine g_istore_n C dX11_areDone_40 (L' := [(2, .int 1), (0, .ref (gad G 42)), (1, .int p1), (3, .int (nI i))]) rfl (by rw [hL]; decide) ?_
            refine g_iinc C dX11_areDone_41 3 rfl (v := nI (i + 1)) (nI_1 _) (L' := [(3, .int (nI (i + 1))), (2, .int 1), (0, .ref (gad G 42)), (1, .int p1)]) rfl (by rw [hL]; decide) ?_
            refine g_goto C dX11_areDone_44 (tgt := 4) (by decide) ?_
            exact g_sub [2, 3, 1, 0] rfl (ih (i + 1) _ (by omega) (by first | with_reducible rfl | (subst ha; first | with_reducible rfl | (simp only [sa_ap, si_ap, si_sa, sa_sa, sa_3, sa_4, sa_5, sa_6, sa_7, sa_8, md_ad, up_us, up_up, xs_b, c_13, c_21, c_32]; done) | (simp [sa_ap, si_ap, si_sa, sa_sa, sa_3, sa_4, sa_5, sa_6, sa_7, sa_8, md_ad, up_us, up_up, xs_b, c_13, c_21, c_32]; done))))
  exact g_sub [2, 3, 1, 0] rfl (lp4 (z) 0 _ (by omega) (by first | with_reducible rfl | (first | with_reducible rfl | (simp only [sa_ap, si_ap, si_sa, sa_sa, sa_3, sa_4, sa_5, sa_6, sa_7, sa_8, md_ad, up_us, up_up, xs_b]; done) | (simp [sa_ap, si_ap, si_sa, sa_sa, sa_3, sa_4, sa_5, sa_6, sa_7, sa_8, md_ad, up_us, up_up, xs_b]; done))))

set_option maxHeartbeats 400000 in
set_option maxRecDepth 100000 in
/-- goSteps.goSteps -/
theorem c_X11_goSteps (l : Launch) (D : va_G) (cy : Nat → ClassId) (A : Nat → Prop) (ad sad : Nat → Nat) (X M : XF) (K : KF) (z : Nat) (hz : M 113 0 = nI z) (hzl : z ≤ 16) : Met l yX11_goSteps (wsA yX11_goSteps cX11_goSteps 2 none) ({ frames := 1, cells := 0, slots := 0, locals := 23 }) (PcW D cy A ad sad X M K [.ref (ad 42)]) (QvW D cy A ad (fun X1 M1 K1 => X1 = X ∧ M1 = sa (sa M 52 (md_gb z (M 104 0) (M 48) (M 49) (M 50) (md_ga (M 52) (M 51) z).1 (md_ga (M 52) (M 51) z).2 z).1) 51 (md_gb z (M 104 0) (M 48) (M 49) (M 50) (md_ga (M 52) (M 51) z).1 (md_ga (M 52) (M 51) z).2 z).2 ∧ K1 = K)) 0 0 A := by
  refine met_ofW [(0, .ref (ad 42))] (by decide +kernel) (Nat.le_of_ble_eq_true rfl) rfl ?_
  intro G C hl hR hL hD hcy hA had hsa hr hQ
  subst hD hcy hA had hsa hl
  refine g_iconst C dX11_goSteps_0 (v := 0) (by decide) ?_
  refine g_istore_n C dX11_goSteps_1 (L' := [(1, .int 0), (0, .ref (gad G 42))]) rfl (by rw [hL]; decide) ?_
  have lp2 : ∀ (n i : Nat) (hi : i + n = z), GH G (WX G X (sa (sa M 52 (md_ga (M 52) (M 51) i).1) 51 (md_ga (M 52) (M 51) i).2) K) [(0, .ref (gad G 42)), (1, .int (nI i))] 0 0 2 [] := by
    intro n
    induction n with
    | zero =>
      intro i hi
      obtain rfl : z = i := by omega
      refine g_iload_n C dX11_goSteps_2 1 rfl ?_
      refine g_aload_n C dX11_goSteps_3 0 rfl ?_
      refine gf_X11_steps C tw1263 dX11_goSteps_4 ?_
      refine g_topi hz ?_
      refine g_icmp_ge C dX11_goSteps_7 (tgt := 59) (by decide) (fun c_7 => ?_) (fun c_7 => absurd (nI_le (a := z) (b := z) (Nat.le_refl _) (by omega)) c_7)
      refine g_iconst C dX11_goSteps_59 (v := 0) (by decide) ?_
      refine g_istore_n C dX11_goSteps_60 (L' := [(1, .int 0), (0, .ref (gad G 42))]) rfl (by rw [hL]; decide) ?_
      have lp61 : ∀ (n i : Nat) (hi : i + n = z), GH G (WX G X (sa (sa M 52 (md_gb z (M 104 0) (M 48) (M 49) (M 50) (md_ga (M 52) (M 51) z).1 (md_ga (M 52) (M 51) z).2 i).1) 51 (md_gb z (M 104 0) (M 48) (M 49) (M 50) (md_ga (M 52) (M 51) z).1 (md_ga (M 52) (M 51) z).2 i).2) K) [(0, .ref (gad G 42)), (1, .int (nI i))] 0 0 61 [] := by
        intro n
        induction n with
        | zero =>
          intro i hi
          obtain rfl : z = i := by omega
          refine g_iload_n C dX11_goSteps_61 1 rfl ?_
          refine g_aload_n C dX11_goSteps_62 0 rfl ?_
          refine gf_X11_steps C tw1263 dX11_goSteps_63 ?_
          refine g_topi hz ?_
          refine g_icmp_ge C dX11_goSteps_66 (tgt := 132) (by decide) (fun c_66 => ?_) (fun c_66 => absurd (nI_le (a := z) (b := z) (Nat.le_refl _) (by omega)) c_66)
          refine g_vretW C hr hQ (Nat.le_refl _) (Nat.le_refl _) dX11_goSteps_132 ?_
          exact ⟨(by first | with_reducible rfl | (first | with_reducible rfl | (simp only [sa_ap, si_ap, si_sa, sa_sa, sa_3, sa_4, sa_5, sa_6, sa_7, sa_8, md_ga, md_gb, up_us, up_up, xs_b]; done) | (simp [sa_ap, si_ap, si_sa, sa_sa, sa_3, sa_4, sa_5, sa_6, sa_7, sa_8, md_ga, md_gb, up_us, up_up, xs_b]; done))), rfl, rfl⟩
        | succ n ih =>
          intro i hi
          refine g_iload_n C dX11_goSteps_61 1 rfl ?_
          refine g_aload_n C dX11_goSteps_62 0 rfl ?_
          refine gf_X11_steps C tw1263 dX11_goSteps_63 ?_
          refine g_topi hz ?_
          refine g_icmp_ge C dX11_goSteps_66 (tgt := 132) (by decide) (fun c_66 => absurd c_66 (nI_ge (a := i) (b := z) (by omega) (by omega))) (fun c_66 => ?_)
          refine g_aload_n C dX11_goSteps_69 0 rfl ?_
          refine gf_X11_stepState C tw1267 dX11_goSteps_70 ?_
          refine g_iload_n C dX11_goSteps_73 1 rfl ?_
          refine al_51 C (by omega) dX11_goSteps_74 ?_
          refine g_bipush C dX11_goSteps_75 (v := 45) (by decide) ?_
          refine g_icmp_ne C dX11_goSteps_77 (tgt := 126) (by decide) (fun c_77 => ?_) (fun c_77 => ?_)
          · try simp only [sa_ap, si_ap, reduceIte, Nat.reduceEqDiff, up_us, lg_cmp_lt, lg_cmp_gt, lg_cmp_le, lg_cmp_ge] at c_77
            refine g_iinc C dX11_goSteps_126 1 rfl (v := nI (i + 1)) (nI_1 _) (L' := [(1, .int (nI (i + 1))), (0, .ref (gad G 42))]) rfl (by rw [hL]; decide) ?_
            refine g_goto C dX11_goSteps_129 (tgt := 61) (by decide) ?_
            exact g_sub [1, 0] rfl (g_M (by first | with_reducible rfl | (first | with_reducible rfl | (simp only [sa_ap, si_ap, si_sa, sa_sa, sa_3, sa_4, sa_5, sa_6, sa_7, sa_8, md_ga, md_gb, up_us, up_up, xs_b, c_77]; done) | (simp [sa_ap, si_ap, si_sa, sa_sa, sa_3, sa_4, sa_5, sa_6, sa_7, sa_8, md_ga, md_gb, up_us, up_up, xs_b, c_77]; done))) (ih (i + 1) (by omega)))
          · try simp only [sa_ap, si_ap, reduceIte, Nat.reduceEqDiff, up_us, lg_cmp_lt, lg_cmp_gt, lg_cmp_le, lg_cmp_ge] at c_77
            refine g_aload_n C dX11_goSteps_80 0 rfl ?_
            refine gf_X11_from C tw1264 dX11_goSteps_81 ?_
            refine g_iload_n C dX11_goSteps_84 1 rfl ?_
            refine al_48 C (by omega) dX11_goSteps_85 ?_
            refine g_aload_n C dX11_goSteps_86 0 rfl ?_
            refine gf_X11_count C tw1247 dX11_goSteps_87 ?_
            refine g_icmp_gt C dX11_goSteps_90 (tgt := 126) (by decide) (fun c_90 => ?_) (fun c_90 => ?_)
            · try simp only [sa_ap, si_ap, reduceIte, Nat.reduceEqDiff, up_us, lg_cmp_lt, lg_cmp_gt, lg_cmp_le, lg_cmp_ge] at c_90
              refine g_iinc C dX11_goSteps_126 1 rfl (v := nI (i + 1)) (nI_1 _) (L' := [(1, .int (nI (i + 1))), (0, .ref (gad G 42))]) rfl (by rw [hL]; decide) ?_
              refine g_goto C dX11_goSteps_129 (tgt := 61) (by decide) ?_
              exact g_sub [1, 0] rfl (g_M (by first | with_reducible rfl | (first | with_reducible rfl | (simp only [sa_ap, si_ap, si_sa, sa_sa, sa_3, sa_4, sa_5, sa_6, sa_7, sa_8, md_ga, md_gb, up_us, up_up, xs_b, c_77, c_90]; done) | (simp [sa_ap, si_ap, si_sa, sa_sa, sa_3, sa_4, sa_5, sa_6, sa_7, sa_8, md_ga, md_gb, up_us, up_up, xs_b, c_77, c_90]; done))) (ih (i + 1) (by omega)))
            · try simp only [sa_ap, si_ap, reduceIte, Nat.reduceEqDiff, up_us, lg_cmp_lt, lg_cmp_gt, lg_cmp_le, lg_cmp_ge] at c_90
              refine g_aload_n C dX11_goSteps_93 0 rfl ?_
              refine g_aload_n C dX11_goSteps_94 0 rfl ?_
              refine gf_X11_ahead C tw1266 dX11_goSteps_95 ?_
              refine g_iload_n C dX11_goSteps_98 1 rfl ?_
              refine al_50 C (by omega) dX11_goSteps_99 ?_
              refine g_callViW C dX11_goSteps_100 (c_X11_areDone _ _ _ _ _ _ _ _ _ _ z hz hzl) tw1663 tw1665 tp33 tw16 tw1666 (rv_X11 C) rfl ⟨by decide +kernel, by decide +kernel, rfl⟩ ⟨rfl, rfl⟩ (by rw [hR]; decide) (Nat.le_of_ble_eq_true rfl) (by rw [hR]; decide) (fun r_1 X1 M1 K1 h_2 => ?_)
              obtain ⟨er_1, hX1, hM1, hK1⟩ := h_2
              subst X1 M1 K1
              try simp only [sa_ap, si_ap, reduceIte, Nat.reduceEqDiff] at er_1
              refine g_if_eq C dX11_goSteps_103 (tgt := 126) (by decide) (fun c_103 => ?_) (fun c_103 => ?_)
              · try simp only [sa_ap, si_ap, reduceIte, Nat.reduceEqDiff, up_us, lg_cmp_lt, lg_cmp_gt, lg_cmp_le, lg_cmp_ge] at c_103
                refine g_iinc C dX11_goSteps_126 1 rfl (v := nI (i + 1)) (nI_1 _) (L' := [(1, .int (nI (i + 1))), (0, .ref (gad G 42))]) rfl (by rw [hL]; decide) ?_
                refine g_goto C dX11_goSteps_129 (tgt := 61) (by decide) ?_
                exact g_sub [1, 0] rfl (g_M (by first | with_reducible rfl | (subst er_1; first | with_reducible rfl | (simp only [sa_ap, si_ap, si_sa, sa_sa, sa_3, sa_4, sa_5, sa_6, sa_7, sa_8, md_ga, md_gb, up_us, up_up, xs_b, c_77, c_90, c_103]; done) | (simp [sa_ap, si_ap, si_sa, sa_sa, sa_3, sa_4, sa_5, sa_6, sa_7, sa_8, md_ga, md_gb, up_us, up_up, xs_b, c_77, c_90, c_103]; done))) (ih (i + 1) (by omega)))
              · try simp only [sa_ap, si_ap, reduceIte, Nat.reduceEqDiff, up_us, lg_cmp_lt, lg_cmp_gt, lg_cmp_le, lg_cmp_ge] at c_103
                refine g_aload_n C dX11_goSteps_106 0 rfl ?_
                refine gf_X11_stepState C tw1267 dX11_goSteps_107 ?_
                refine g_iload_n C dX11_goSteps_110 1 rfl ?_
                refine g_bipush C dX11_goSteps_111 (v := 114) (by decide) ?_
                refine as_51 C ⟨by decide, by decide⟩ (by omega) dX11_goSteps_113 ?_
                refine g_aload_n C dX11_goSteps_114 0 rfl ?_
                refine gf_X11_left C tw1268 dX11_goSteps_115 ?_
                refine g_iload_n C dX11_goSteps_118 1 rfl ?_
                refine g_aload_n C dX11_goSteps_119 0 rfl ?_
                refine gf_X11_takes C tw1265 dX11_goSteps_120 ?_
                refine g_iload_n C dX11_goSteps_123 1 rfl ?_
                refine al_49 C (by omega) dX11_goSteps_124 ?_
                refine as_52 C (by omega) dX11_goSteps_125 ?_
                refine g_iinc C dX11_goSteps_126 1 rfl (v := nI (i + 1)) (nI_1 _) (L' := [(1, .int (nI (i + 1))), (0, .ref (gad G 42))]) rfl (by rw [hL]; decide) ?_
                refine g_goto C dX11_goSteps_129 (tgt := 61) (by decide) ?_
                exact g_sub [1, 0] rfl (g_M (by first | with_reducible rfl | (subst er_1; first | with_reducible rfl | (simp only [sa_ap, si_ap, si_sa, sa_sa, sa_3, sa_4, sa_5, sa_6, sa_7, sa_8, md_ga, md_gb, up_us, up_up, xs_b, c_77, c_90, c_103]; done) | (simp [sa_ap, si_ap, si_sa, sa_sa, sa_3, sa_4, sa_5, sa_6, sa_7, sa_8, md_ga, md_gb, up_us, up_up, xs_b, c_77, c_90, c_103]; done))) (ih (i + 1) (by omega)))
      exact g_sub [1, 0] rfl (g_M (by simp [md_gb]) (lp61 (z) 0 (by omega)))
    | succ n ih =>
      intro i hi
      refine g_iload_n C dX11_goSteps_2 1 rfl ?_
      refine g_aload_n C dX11_goSteps_3 0 rfl ?_
      refine gf_X11_steps C tw1263 dX11_goSteps_4 ?_
      refine g_topi hz ?_
      refine g_icmp_ge C dX11_goSteps_7 (tgt := 59) (by decide) (fun c_7 => absurd c_7 (nI_ge (a := i) (b := z) (by omega) (by omega))) (fun c_7 => ?_)
      refine g_aload_n C dX11_goSteps_10 0 rfl ?_
      refine gf_X11_stepState C tw1267 dX11_goSteps_11 ?_
      refine g_iload_n C dX11_goSteps_14 1 rfl ?_
      refine al_51 C (by omega) dX11_goSteps_15 ?_
      refine g_bipush C dX11_goSteps_16 (v := 114) (by decide) ?_
      refine g_icmp_ne C dX11_goSteps_18 (tgt := 53) (by decide) (fun c_18 => ?_) (fun c_18 => ?_)
      · try simp only [sa_ap, si_ap, reduceIte, Nat.reduceEqDiff, up_us, lg_cmp_lt, lg_cmp_gt, lg_cmp_le, lg_cmp_ge] at c_18
        refine g_iinc C dX11_goSteps_53 1 rfl (v := nI (i + 1)) (nI_1 _) (L' := [(1, .int (nI (i + 1))), (0, .ref (gad G 42))]) rfl (by rw [hL]; decide) ?_
        refine g_goto C dX11_goSteps_56 (tgt := 2) (by decide) ?_
        exact g_sub [1, 0] rfl (g_M (by first | with_reducible rfl | (first | with_reducible rfl | (simp only [sa_ap, si_ap, si_sa, sa_sa, sa_3, sa_4, sa_5, sa_6, sa_7, sa_8, md_ga, md_gb, up_us, up_up, xs_b, c_18]; done) | (simp [sa_ap, si_ap, si_sa, sa_sa, sa_3, sa_4, sa_5, sa_6, sa_7, sa_8, md_ga, md_gb, up_us, up_up, xs_b, c_18]; done))) (ih (i + 1) (by omega)))
      · try simp only [sa_ap, si_ap, reduceIte, Nat.reduceEqDiff, up_us, lg_cmp_lt, lg_cmp_gt, lg_cmp_le, lg_cmp_ge] at c_18
        refine g_aload_n C dX11_goSteps_21 0 rfl ?_
        refine gf_X11_left C tw1268 dX11_goSteps_22 ?_
        refine g_iload_n C dX11_goSteps_25 1 rfl ?_
        refine g_dup2 C dX11_goSteps_26 rfl rfl ?_
        refine al_52 C (by omega) dX11_goSteps_27 ?_
        refine g_iconst C dX11_goSteps_28 (v := 1) (by decide) ?_
        refine g_isub C dX11_goSteps_29 ?_
        refine as_52 C (by omega) dX11_goSteps_30 ?_
        refine g_aload_n C dX11_goSteps_31 0 rfl ?_
        refine gf_X11_stepState C tw1267 dX11_goSteps_32 ?_
        refine g_iload_n C dX11_goSteps_35 1 rfl ?_
        refine g_aload_n C dX11_goSteps_36 0 rfl ?_
        refine gf_X11_left C tw1268 dX11_goSteps_37 ?_
        refine g_iload_n C dX11_goSteps_40 1 rfl ?_
        refine al_52 C (by omega) dX11_goSteps_41 ?_
        refine g_if_ne C dX11_goSteps_42 (tgt := 50) (by decide) (fun c_42 => ?_) (fun c_42 => ?_)
        · try simp only [sa_ap, si_ap, reduceIte, Nat.reduceEqDiff, up_us, lg_cmp_lt, lg_cmp_gt, lg_cmp_le, lg_cmp_ge] at c_42
          refine g_bipush C dX11_goSteps_50 (v := 114) (by decide) ?_
          refine as_51 C ⟨by decide, by decide⟩ (by omega) dX11_goSteps_52 ?_
          refine g_iinc C dX11_goSteps_53 1 rfl (v := nI (i + 1)) (nI_1 _) (L' := [(1, .int (nI (i + 1))), (0, .ref (gad G 42))]) rfl (by rw [hL]; decide) ?_
          refine g_goto C dX11_goSteps_56 (tgt := 2) (by decide) ?_
          exact g_sub [1, 0] rfl (g_M (by first | with_reducible rfl | (first | with_reducible rfl | (simp only [sa_ap, si_ap, si_sa, sa_sa, sa_3, sa_4, sa_5, sa_6, sa_7, sa_8, md_ga, md_gb, up_us, up_up, xs_b, c_18, c_42]; done) | (simp [sa_ap, si_ap, si_sa, sa_sa, sa_3, sa_4, sa_5, sa_6, sa_7, sa_8, md_ga, md_gb, up_us, up_up, xs_b, c_18, c_42]; done))) (ih (i + 1) (by omega)))
        · try simp only [sa_ap, si_ap, reduceIte, Nat.reduceEqDiff, up_us, lg_cmp_lt, lg_cmp_gt, lg_cmp_le, lg_cmp_ge] at c_42
          refine g_bipush C dX11_goSteps_45 (v := 101) (by decide) ?_
          refine g_goto C dX11_goSteps_47 (tgt := 52) (by decide) ?_
          refine as_51 C ⟨by decide, by decide⟩ (by omega) dX11_goSteps_52 ?_
          refine g_iinc C dX11_goSteps_53 1 rfl (v := nI (i + 1)) (nI_1 _) (L' := [(1, .int (nI (i + 1))), (0, .ref (gad G 42))]) rfl (by rw [hL]; decide) ?_
          refine g_goto C dX11_goSteps_56 (tgt := 2) (by decide) ?_
          exact g_sub [1, 0] rfl (g_M (by first | with_reducible rfl | (first | with_reducible rfl | (simp only [sa_ap, si_ap, si_sa, sa_sa, sa_3, sa_4, sa_5, sa_6, sa_7, sa_8, md_ga, md_gb, up_us, up_up, xs_b, c_18, c_42]; done) | (simp [sa_ap, si_ap, si_sa, sa_sa, sa_3, sa_4, sa_5, sa_6, sa_7, sa_8, md_ga, md_gb, up_us, up_up, xs_b, c_18, c_42]; done))) (ih (i + 1) (by omega)))
  exact g_sub [1, 0] rfl (g_M (by simp [md_ga, sa_self]) (lp2 (z) 0 (by omega)))

set_option maxHeartbeats 400000 in
set_option maxRecDepth 100000 in
/-- track.track -/
theorem c_X11_track (l : Launch) (D : va_G) (cy : Nat → ClassId) (A : Nat → Prop) (ad sad : Nat → Nat) (X M : XF) (K : KF) (p1 p2 : Int32) : Met l yX11_track (wsA yX11_track cX11_track 4 (some .int)) ({ frames := 1, cells := 0, slots := 0, locals := 25 }) (PcW D cy A ad sad X M K [.ref (ad 42), .int p1, .int p2]) (QiW D cy A ad (fun r X1 M1 K1 => r = (if xs_track p1 p2 = 0 then M 62 p1.toNatClampNeg else 0) ∧ X1 = X ∧ M1 = (if xs_track p1 p2 = 0 then sa (si M 100 0) 62 (upd (M 62) p1.toNatClampNeg p2) else si M 100 (xs_track p1 p2)) ∧ K1 = K)) 0 0 A := by
  refine met_ofW [(0, .ref (ad 42)), (1, .int p1), (2, .int p2)] (by decide +kernel) (Nat.le_of_ble_eq_true rfl) rfl ?_
  intro G C hl hR hL hD hcy hA had hsa hr hQ
  subst hD hcy hA had hsa hl
  refine g_aload_n C dX11_track_0 0 rfl ?_
  refine g_iconst C dX11_track_1 (v := 0) (by decide) ?_
  refine pf_X11_thrown C tw1243 dX11_track_2 ?_
  refine g_aload_n C dX11_track_5 0 rfl ?_
  refine g_iload_n C dX11_track_6 1 rfl ?_
  refine g_i2l C dX11_track_7 ?_
  refine g_lconst C dX11_track_8 (v := 0) (by decide) ?_
  refine g_lconst C dX11_track_9 (v := 1) (by decide) ?_
  refine g_callSiW C dX11_track_10 (c_X11_in _ _ _ _ _ _ _ _ _ _ _ _) tw1406 tw1407 tw16 tw1408 rfl ⟨by decide +kernel, by decide +kernel, rfl⟩ ⟨rfl, rfl⟩ (by rw [hR]; decide) (Nat.le_of_ble_eq_true rfl) (by rw [hR]; decide) (fun r_1 X1 M1 K1 h_2 => ?_)
  obtain ⟨er_1, hX1, hM1, hK1⟩ := h_2
  subst X1 M1 K1
  try simp only [sa_ap, si_ap, reduceIte, Nat.reduceEqDiff] at er_1
  refine g_if_eq C dX11_track_13 (tgt := 30) (by decide) (fun c_13 => ?_) (fun c_13 => ?_)
  · try simp only [sa_ap, si_ap, reduceIte, Nat.reduceEqDiff, up_us, lg_cmp_lt, lg_cmp_gt, lg_cmp_le, lg_cmp_ge] at c_13
    refine g_iconst C dX11_track_30 (v := 1) (by decide) ?_
    refine g_goto C dX11_track_31 (tgt := 35) (by decide) ?_
    refine g_iconst C dX11_track_35 (v := 1) (by decide) ?_
    refine g_callViW C dX11_track_36 (c_X11_fails_1 _ _ _ _ _ _ _ _ _ _ (by rfl) (by decide)) tw1412 tw1414 tp14 tw16 tw1415 (rv_X11 C) rfl ⟨by decide +kernel, by decide +kernel, rfl⟩ ⟨rfl, rfl⟩ (by rw [hR]; decide) (Nat.le_of_ble_eq_true rfl) (by rw [hR]; decide) (fun r_3 X1 M1 K1 h_4 => ?_)
    obtain ⟨rfl, hX1, hM1, hK1⟩ := h_4
    subst X1 M1 K1
    refine g_if_eq C dX11_track_39 (tgt := 44) (by decide) (fun c_39 => absurd c_39 (by decide)) (fun c_39 => ?_)
    refine g_iconst C dX11_track_42 (v := 0) (by decide) ?_
    refine g_iretW C hr hQ (Nat.le_refl _) (Nat.le_refl _) dX11_track_43 ?_
    exact ⟨(by first | with_reducible rfl | (subst er_1; first | with_reducible rfl | (simp only [sa_ap, si_ap, si_sa, sa_sa, sa_3, sa_4, sa_5, sa_6, sa_7, sa_8, xs_track, up_us, up_up, xs_b, c_13]; done) | (simp [sa_ap, si_ap, si_sa, sa_sa, sa_3, sa_4, sa_5, sa_6, sa_7, sa_8, xs_track, up_us, up_up, xs_b, c_13]; done))), rfl, (by first | with_reducible rfl | (subst er_1; first | with_reducible rfl | (simp only [sa_ap, si_ap, si_sa, sa_sa, sa_3, sa_4, sa_5, sa_6, sa_7, sa_8, xs_track, up_us, up_up, xs_b, c_13]; done) | (simp [sa_ap, si_ap, si_sa, sa_sa, sa_3, sa_4, sa_5, sa_6, sa_7, sa_8, xs_track, up_us, up_up, xs_b, c_13]; done))), rfl⟩
  · try simp only [sa_ap, si_ap, reduceIte, Nat.reduceEqDiff, up_us, lg_cmp_lt, lg_cmp_gt, lg_cmp_le, lg_cmp_ge] at c_13
    obtain ⟨j, hj, rfl⟩ := lin_ix (p := p1) (b := 1) (n := 2) (by decide) (by decide) (by rw [← er_1]; exact c_13)
    have c_clj : (nI j).toNatClampNeg = j := nI_clamp (by omega)
    refine g_iload_n C dX11_track_16 2 rfl ?_
    refine g_i2l C dX11_track_17 ?_
    refine g_ldc2 C dX11_track_18 tw1684 ?_
    refine g_ldc2 C dX11_track_21 tw1685 ?_
    refine g_callSiW C dX11_track_24 (c_X11_in _ _ _ _ _ _ _ _ _ _ _ _) tw1406 tw1407 tw16 tw1408 rfl ⟨by decide +kernel, by decide +kernel, rfl⟩ ⟨rfl, rfl⟩ (by rw [hR]; decide) (Nat.le_of_ble_eq_true rfl) (by rw [hR]; decide) (fun r_5 X1 M1 K1 h_6 => ?_)
    obtain ⟨er_5, hX1, hM1, hK1⟩ := h_6
    subst X1 M1 K1
    try simp only [sa_ap, si_ap, reduceIte, Nat.reduceEqDiff] at er_5
    refine g_if_ne C dX11_track_27 (tgt := 34) (by decide) (fun c_27 => ?_) (fun c_27 => ?_)
    · try simp only [sa_ap, si_ap, reduceIte, Nat.reduceEqDiff, up_us, lg_cmp_lt, lg_cmp_gt, lg_cmp_le, lg_cmp_ge] at c_27
      refine g_iconst C dX11_track_34 (v := 0) (by decide) ?_
      refine g_iconst C dX11_track_35 (v := 1) (by decide) ?_
      refine g_callViW C dX11_track_36 (c_X11_fails_0 _ _ _ _ _ _ _ _ _ _ (by rfl)) tw1412 tw1414 tp14 tw16 tw1415 (rv_X11 C) rfl ⟨by decide +kernel, by decide +kernel, rfl⟩ ⟨rfl, rfl⟩ (by rw [hR]; decide) (Nat.le_of_ble_eq_true rfl) (by rw [hR]; decide) (fun r_7 X1 M1 K1 h_8 => ?_)
      obtain ⟨rfl, hX1, hM1, hK1⟩ := h_8
      subst X1 M1 K1
      refine g_if_eq C dX11_track_39 (tgt := 44) (by decide) (fun c_39 => ?_) (fun c_39 => absurd (by decide) c_39)
      refine g_aload_n C dX11_track_44 0 rfl ?_
      refine gf_X11_radar C tw1281 dX11_track_45 ?_
      refine g_iload_n C dX11_track_48 1 rfl ?_
      refine al_62 C (by omega) dX11_track_49 ?_
      refine g_namei (fun v_9 ev_9 => ?_)
      refine g_istore_n C dX11_track_50 (L' := [(3, .int v_9), (0, .ref (gad G 42)), (1, .int (nI j)), (2, .int p2)]) rfl (by rw [hL]; decide) ?_
      refine g_aload_n C dX11_track_51 1 rfl ?_
      refine gf_X11_radar C tw1281 dX11_track_52 ?_
      refine g_iload_n C dX11_track_55 2 rfl ?_
      refine g_iload_n C dX11_track_56 3 rfl ?_
      refine as_62 C (by omega) dX11_track_57 ?_
      refine g_iload_n C dX11_track_58 0 rfl ?_
      refine g_iretW C hr hQ (Nat.le_refl _) (Nat.le_refl _) dX11_track_59 ?_
      exact ⟨(by first | with_reducible rfl | (subst er_1 er_5 ev_9; first | with_reducible rfl | (simp only [sa_ap, si_ap, si_sa, sa_sa, sa_3, sa_4, sa_5, sa_6, sa_7, sa_8, xs_track, up_us, up_up, xs_b, c_13, c_clj, c_27]; done) | (simp [sa_ap, si_ap, si_sa, sa_sa, sa_3, sa_4, sa_5, sa_6, sa_7, sa_8, xs_track, up_us, up_up, xs_b, c_13, c_clj, c_27]; done))), rfl, (by first | with_reducible rfl | (subst er_1 er_5 ev_9; first | with_reducible rfl | (simp only [sa_ap, si_ap, si_sa, sa_sa, sa_3, sa_4, sa_5, sa_6, sa_7, sa_8, xs_track, up_us, up_up, xs_b, c_13, c_clj, c_27]; done) | (simp [sa_ap, si_ap, si_sa, sa_sa, sa_3, sa_4, sa_5, sa_6, sa_7, sa_8, xs_track, up_us, up_up, xs_b, c_13, c_clj, c_27]; done))), rfl⟩
    · try simp only [sa_ap, si_ap, reduceIte, Nat.reduceEqDiff, up_us, lg_cmp_lt, lg_cmp_gt, lg_cmp_le, lg_cmp_ge] at c_27
      refine g_iconst C dX11_track_30 (v := 1) (by decide) ?_
      refine g_goto C dX11_track_31 (tgt := 35) (by decide) ?_
      refine g_iconst C dX11_track_35 (v := 1) (by decide) ?_
      refine g_callViW C dX11_track_36 (c_X11_fails_1 _ _ _ _ _ _ _ _ _ _ (by rfl) (by decide)) tw1412 tw1414 tp14 tw16 tw1415 (rv_X11 C) rfl ⟨by decide +kernel, by decide +kernel, rfl⟩ ⟨rfl, rfl⟩ (by rw [hR]; decide) (Nat.le_of_ble_eq_true rfl) (by rw [hR]; decide) (fun r_10 X1 M1 K1 h_11 => ?_)
      obtain ⟨rfl, hX1, hM1, hK1⟩ := h_11
      subst X1 M1 K1
      refine g_if_eq C dX11_track_39 (tgt := 44) (by decide) (fun c_39 => absurd c_39 (by decide)) (fun c_39 => ?_)
      refine g_iconst C dX11_track_42 (v := 0) (by decide) ?_
      refine g_iretW C hr hQ (Nat.le_refl _) (Nat.le_refl _) dX11_track_43 ?_
      exact ⟨(by first | with_reducible rfl | (subst er_1 er_5; first | with_reducible rfl | (simp only [sa_ap, si_ap, si_sa, sa_sa, sa_3, sa_4, sa_5, sa_6, sa_7, sa_8, xs_track, up_us, up_up, xs_b, c_13, c_clj, c_27]; done) | (simp [sa_ap, si_ap, si_sa, sa_sa, sa_3, sa_4, sa_5, sa_6, sa_7, sa_8, xs_track, up_us, up_up, xs_b, c_13, c_clj, c_27]; done))), rfl, (by first | with_reducible rfl | (subst er_1 er_5; first | with_reducible rfl | (simp only [sa_ap, si_ap, si_sa, sa_sa, sa_3, sa_4, sa_5, sa_6, sa_7, sa_8, xs_track, up_us, up_up, xs_b, c_13, c_clj, c_27]; done) | (simp [sa_ap, si_ap, si_sa, sa_sa, sa_3, sa_4, sa_5, sa_6, sa_7, sa_8, xs_track, up_us, up_up, xs_b, c_13, c_clj, c_27]; done))), rfl⟩

set_option maxHeartbeats 400000 in
set_option maxRecDepth 100000 in
/-- state.state -/
theorem c_X11_state (l : Launch) (D : va_G) (cy : Nat → ClassId) (A : Nat → Prop) (ad sad : Nat → Nat) (X M : XF) (K : KF) (hc : isCh (M 102 0)) : Met l yX11_state (wsA yX11_state cX11_state 1 (some .char)) ({ frames := 0, cells := 0, slots := 0, locals := 0 }) (PcW D cy A ad sad X M K [.ref (ad 42)]) (QiW D cy A ad (fun r X1 M1 K1 => r = M 102 0 ∧ X1 = X ∧ M1 = si M 100 0 ∧ K1 = K)) 0 0 A := by
  refine met_ofW [(0, .ref (ad 42))] (by decide +kernel) (Nat.le_of_ble_eq_true rfl) rfl ?_
  intro G C hl hR hL hD hcy hA had hsa hr hQ
  subst hD hcy hA had hsa hl
  refine g_aload_n C dX11_state_0 0 rfl ?_
  refine g_iconst C dX11_state_1 (v := 0) (by decide) ?_
  refine pf_X11_thrown C tw1243 dX11_state_2 ?_
  refine g_aload_n C dX11_state_5 0 rfl ?_
  refine gf_X11_state C tw1245 dX11_state_6 ?_
  refine g_zretW C hr hc.1 hQ (Nat.le_refl _) (Nat.le_refl _) dX11_state_9 ?_
  exact ⟨(by first | with_reducible rfl | (first | with_reducible rfl | (simp only [sa_ap, si_ap, si_sa, sa_sa, sa_3, sa_4, sa_5, sa_6, sa_7, sa_8, up_us, up_up, xs_b]; done) | (simp [sa_ap, si_ap, si_sa, sa_sa, sa_3, sa_4, sa_5, sa_6, sa_7, sa_8, up_us, up_up, xs_b]; done))), (by first | with_reducible rfl | (first | with_reducible rfl | (simp only [sa_ap, si_ap, si_sa, sa_sa, sa_3, sa_4, sa_5, sa_6, sa_7, sa_8, up_us, up_up, xs_b]; done) | (simp [sa_ap, si_ap, si_sa, sa_sa, sa_3, sa_4, sa_5, sa_6, sa_7, sa_8, up_us, up_up, xs_b]; done))), rfl, rfl⟩

set_option maxHeartbeats 400000 in
set_option maxRecDepth 100000 in
/-- second.second -/
theorem c_X11_second (l : Launch) (D : va_G) (cy : Nat → ClassId) (A : Nat → Prop) (ad sad : Nat → Nat) (X M : XF) (K : KF) : Met l yX11_second (wsA yX11_second cX11_second 1 (some .int)) ({ frames := 0, cells := 0, slots := 0, locals := 0 }) (PcW D cy A ad sad X M K [.ref (ad 42)]) (QiW D cy A ad (fun r X1 M1 K1 => r = M 101 0 ∧ X1 = X ∧ M1 = si M 100 0 ∧ K1 = K)) 0 0 A := by
  refine met_ofW [(0, .ref (ad 42))] (by decide +kernel) (Nat.le_of_ble_eq_true rfl) rfl ?_
  intro G C hl hR hL hD hcy hA had hsa hr hQ
  subst hD hcy hA had hsa hl
  refine g_aload_n C dX11_second_0 0 rfl ?_
  refine g_iconst C dX11_second_1 (v := 0) (by decide) ?_
  refine pf_X11_thrown C tw1243 dX11_second_2 ?_
  refine g_aload_n C dX11_second_5 0 rfl ?_
  refine gf_X11_second C tw1244 dX11_second_6 ?_
  refine g_iretW C hr hQ (Nat.le_refl _) (Nat.le_refl _) dX11_second_9 ?_
  exact ⟨(by first | with_reducible rfl | (first | with_reducible rfl | (simp only [sa_ap, si_ap, si_sa, sa_sa, sa_3, sa_4, sa_5, sa_6, sa_7, sa_8, up_us, up_up, xs_b]; done) | (simp [sa_ap, si_ap, si_sa, sa_sa, sa_3, sa_4, sa_5, sa_6, sa_7, sa_8, up_us, up_up, xs_b]; done))), (by first | with_reducible rfl | (first | with_reducible rfl | (simp only [sa_ap, si_ap, si_sa, sa_sa, sa_3, sa_4, sa_5, sa_6, sa_7, sa_8, up_us, up_up, xs_b]; done) | (simp [sa_ap, si_ap, si_sa, sa_sa, sa_3, sa_4, sa_5, sa_6, sa_7, sa_8, up_us, up_up, xs_b]; done))), rfl, rfl⟩

set_option maxHeartbeats 400000 in
set_option maxRecDepth 100000 in
/-- risk.risk -/
theorem c_X11_risk (l : Launch) (D : va_G) (cy : Nat → ClassId) (A : Nat → Prop) (ad sad : Nat → Nat) (X M : XF) (K : KF) : Met l yX11_risk (wsA yX11_risk cX11_risk 1 (some .int)) ({ frames := 2, cells := 0, slots := 0, locals := 43 }) (PcW D cy A ad sad X M K [.ref (ad 42)]) (QiW D cy A ad (fun r X1 M1 K1 => r = md_risk (M 59) (M 60) ∧ X1 = X ∧ M1 = si M 100 0 ∧ K1 = K)) 0 0 A := by
  refine met_ofW [(0, .ref (ad 42))] (by decide +kernel) (Nat.le_of_ble_eq_true rfl) rfl ?_
  intro G C hl hR hL hD hcy hA had hsa hr hQ
  subst hD hcy hA had hsa hl
  refine g_aload_n C dX11_risk_0 0 rfl ?_
  refine g_iconst C dX11_risk_1 (v := 0) (by decide) ?_
  refine pf_X11_thrown C tw1243 dX11_risk_2 ?_
  refine g_aload_n C dX11_risk_5 0 rfl ?_
  refine g_callViW C dX11_risk_6 (c_X11_riskOfAll _ _ _ _ _ _ _ _ _ ) tw1505 tw1507 tp22 tw16 tw1508 (rv_X11 C) rfl ⟨by decide +kernel, by decide +kernel, rfl⟩ ⟨rfl, rfl⟩ (by rw [hR]; decide) (Nat.le_of_ble_eq_true rfl) (by rw [hR]; decide) (fun r_1 X1 M1 K1 h_2 => ?_)
  obtain ⟨er_1, hX1, hM1, hK1⟩ := h_2
  subst X1 M1 K1
  try simp only [sa_ap, si_ap, reduceIte, Nat.reduceEqDiff] at er_1
  refine g_iretW C hr hQ (Nat.le_refl _) (Nat.le_refl _) dX11_risk_9 ?_
  exact ⟨(by first | with_reducible rfl | (subst er_1; first | with_reducible rfl | (simp only [sa_ap, si_ap, si_sa, sa_sa, sa_3, sa_4, sa_5, sa_6, sa_7, sa_8, up_us, up_up, xs_b]; done) | (simp [sa_ap, si_ap, si_sa, sa_sa, sa_3, sa_4, sa_5, sa_6, sa_7, sa_8, up_us, up_up, xs_b]; done))), (by first | with_reducible rfl | (subst er_1; first | with_reducible rfl | (simp only [sa_ap, si_ap, si_sa, sa_sa, sa_3, sa_4, sa_5, sa_6, sa_7, sa_8, up_us, up_up, xs_b]; done) | (simp [sa_ap, si_ap, si_sa, sa_sa, sa_3, sa_4, sa_5, sa_6, sa_7, sa_8, up_us, up_up, xs_b]; done))), rfl, rfl⟩

set_option maxHeartbeats 400000 in
set_option maxRecDepth 100000 in
/-- isSound.isSound -/
theorem c_X11_isSound (l : Launch) (D : va_G) (cy : Nat → ClassId) (A : Nat → Prop) (ad sad : Nat → Nat) (X M : XF) (K : KF) : Met l yX11_isSound (wsA yX11_isSound cX11_isSound 1 (some .boolean)) ({ frames := 0, cells := 0, slots := 0, locals := 0 }) (PcW D cy A ad sad X M K [.ref (ad 42)]) (QiW D cy A ad (fun r X1 M1 K1 => r = 1 ∧ X1 = X ∧ M1 = si M 100 0 ∧ K1 = K)) 0 0 A := by
  refine met_ofW [(0, .ref (ad 42))] (by decide +kernel) (Nat.le_of_ble_eq_true rfl) rfl ?_
  intro G C hl hR hL hD hcy hA had hsa hr hQ
  subst hD hcy hA had hsa hl
  refine g_aload_n C dX11_isSound_0 0 rfl ?_
  refine g_iconst C dX11_isSound_1 (v := 0) (by decide) ?_
  refine pf_X11_thrown C tw1243 dX11_isSound_2 ?_
  refine g_iconst C dX11_isSound_5 (v := 1) (by decide) ?_
  refine g_zretW C hr (by decide) hQ (Nat.le_refl _) (Nat.le_refl _) dX11_isSound_6 ?_
  exact ⟨(by first | with_reducible rfl | (first | with_reducible rfl | (simp only [sa_ap, si_ap, si_sa, sa_sa, sa_3, sa_4, sa_5, sa_6, sa_7, sa_8, up_us, up_up, xs_b]; done) | (simp [sa_ap, si_ap, si_sa, sa_sa, sa_3, sa_4, sa_5, sa_6, sa_7, sa_8, up_us, up_up, xs_b]; done))), (by first | with_reducible rfl | (first | with_reducible rfl | (simp only [sa_ap, si_ap, si_sa, sa_sa, sa_3, sa_4, sa_5, sa_6, sa_7, sa_8, up_us, up_up, xs_b]; done) | (simp [sa_ap, si_ap, si_sa, sa_sa, sa_3, sa_4, sa_5, sa_6, sa_7, sa_8, up_us, up_up, xs_b]; done))), rfl, rfl⟩

set_option maxHeartbeats 400000 in
set_option maxRecDepth 100000 in
/-- count.count -/
theorem c_X11_count (l : Launch) (D : va_G) (cy : Nat → ClassId) (A : Nat → Prop) (ad sad : Nat → Nat) (X M : XF) (K : KF) : Met l yX11_count (wsA yX11_count cX11_count 1 (some .int)) ({ frames := 1, cells := 0, slots := 0, locals := 22 }) (PcW D cy A ad sad X M K [.ref (ad 42)]) (QiW D cy A ad (fun r X1 M1 K1 => r = (if xs_beg (M 103 0) = 0 then M 104 0 else 0) ∧ X1 = X ∧ M1 = (if xs_beg (M 103 0) = 0 then si M 100 0 else si M 100 (xs_beg (M 103 0))) ∧ K1 = K)) 0 0 A := by
  refine met_ofW [(0, .ref (ad 42))] (by decide +kernel) (Nat.le_of_ble_eq_true rfl) rfl ?_
  intro G C hl hR hL hD hcy hA had hsa hr hQ
  subst hD hcy hA had hsa hl
  refine g_aload_n C dX11_count_0 0 rfl ?_
  refine g_iconst C dX11_count_1 (v := 0) (by decide) ?_
  refine pf_X11_thrown C tw1243 dX11_count_2 ?_
  refine g_aload_n C dX11_count_5 0 rfl ?_
  refine g_aload_n C dX11_count_6 0 rfl ?_
  refine gf_X11_wasBegun C tw1246 dX11_count_7 ?_
  refine g_if_ne C dX11_count_10 (tgt := 17) (by decide) (fun c_10 => ?_) (fun c_10 => ?_)
  · try simp only [sa_ap, si_ap, reduceIte, Nat.reduceEqDiff, up_us, lg_cmp_lt, lg_cmp_gt, lg_cmp_le, lg_cmp_ge] at c_10
    refine g_iconst C dX11_count_17 (v := 0) (by decide) ?_
    refine g_iconst C dX11_count_18 (v := 1) (by decide) ?_
    refine g_callViW C dX11_count_19 (c_X11_fails_0 _ _ _ _ _ _ _ _ _ _ (by rfl)) tw1412 tw1414 tp14 tw16 tw1415 (rv_X11 C) rfl ⟨by decide +kernel, by decide +kernel, rfl⟩ ⟨rfl, rfl⟩ (by rw [hR]; decide) (Nat.le_of_ble_eq_true rfl) (by rw [hR]; decide) (fun r_1 X1 M1 K1 h_2 => ?_)
    obtain ⟨rfl, hX1, hM1, hK1⟩ := h_2
    subst X1 M1 K1
    refine g_if_eq C dX11_count_22 (tgt := 29) (by decide) (fun c_22 => ?_) (fun c_22 => absurd (by decide) c_22)
    refine g_aload_n C dX11_count_29 0 rfl ?_
    refine gf_X11_count C tw1247 dX11_count_30 ?_
    refine g_iretW C hr hQ (Nat.le_refl _) (Nat.le_refl _) dX11_count_33 ?_
    exact ⟨(by first | with_reducible rfl | (first | with_reducible rfl | (simp only [sa_ap, si_ap, si_sa, sa_sa, sa_3, sa_4, sa_5, sa_6, sa_7, sa_8, xs_beg, up_us, up_up, xs_b, c_10]; done) | (simp [sa_ap, si_ap, si_sa, sa_sa, sa_3, sa_4, sa_5, sa_6, sa_7, sa_8, xs_beg, up_us, up_up, xs_b, c_10]; done))), rfl, (by first | with_reducible rfl | (first | with_reducible rfl | (simp only [sa_ap, si_ap, si_sa, sa_sa, sa_3, sa_4, sa_5, sa_6, sa_7, sa_8, xs_beg, up_us, up_up, xs_b, c_10]; done) | (simp [sa_ap, si_ap, si_sa, sa_sa, sa_3, sa_4, sa_5, sa_6, sa_7, sa_8, xs_beg, up_us, up_up, xs_b, c_10]; done))), rfl⟩
  · try simp only [sa_ap, si_ap, reduceIte, Nat.reduceEqDiff, up_us, lg_cmp_lt, lg_cmp_gt, lg_cmp_le, lg_cmp_ge] at c_10
    refine g_iconst C dX11_count_13 (v := 1) (by decide) ?_
    refine g_goto C dX11_count_14 (tgt := 18) (by decide) ?_
    refine g_iconst C dX11_count_18 (v := 1) (by decide) ?_
    refine g_callViW C dX11_count_19 (c_X11_fails_1 _ _ _ _ _ _ _ _ _ _ (by rfl) (by decide)) tw1412 tw1414 tp14 tw16 tw1415 (rv_X11 C) rfl ⟨by decide +kernel, by decide +kernel, rfl⟩ ⟨rfl, rfl⟩ (by rw [hR]; decide) (Nat.le_of_ble_eq_true rfl) (by rw [hR]; decide) (fun r_3 X1 M1 K1 h_4 => ?_)
    obtain ⟨rfl, hX1, hM1, hK1⟩ := h_4
    subst X1 M1 K1
    refine g_if_eq C dX11_count_22 (tgt := 29) (by decide) (fun c_22 => absurd c_22 (by decide)) (fun c_22 => ?_)
    refine g_iconst C dX11_count_25 (v := 0) (by decide) ?_
    refine g_goto C dX11_count_26 (tgt := 33) (by decide) ?_
    refine g_iretW C hr hQ (Nat.le_refl _) (Nat.le_refl _) dX11_count_33 ?_
    exact ⟨(by first | with_reducible rfl | (first | with_reducible rfl | (simp only [sa_ap, si_ap, si_sa, sa_sa, sa_3, sa_4, sa_5, sa_6, sa_7, sa_8, xs_beg, up_us, up_up, xs_b, c_10]; done) | (simp [sa_ap, si_ap, si_sa, sa_sa, sa_3, sa_4, sa_5, sa_6, sa_7, sa_8, xs_beg, up_us, up_up, xs_b, c_10]; done))), rfl, (by first | with_reducible rfl | (first | with_reducible rfl | (simp only [sa_ap, si_ap, si_sa, sa_sa, sa_3, sa_4, sa_5, sa_6, sa_7, sa_8, xs_beg, up_us, up_up, xs_b, c_10]; done) | (simp [sa_ap, si_ap, si_sa, sa_sa, sa_3, sa_4, sa_5, sa_6, sa_7, sa_8, xs_beg, up_us, up_up, xs_b, c_10]; done))), rfl⟩

set_option maxHeartbeats 400000 in
set_option maxRecDepth 100000 in
/-- holds.holds -/
theorem c_X11_holds (l : Launch) (D : va_G) (cy : Nat → ClassId) (A : Nat → Prop) (ad sad : Nat → Nat) (X M : XF) (K : KF) : Met l yX11_holds (wsA yX11_holds cX11_holds 1 (some .int)) ({ frames := 1, cells := 0, slots := 0, locals := 22 }) (PcW D cy A ad sad X M K [.ref (ad 42)]) (QiW D cy A ad (fun r X1 M1 K1 => r = (if xs_beg (M 103 0) = 0 then M 105 0 else 0) ∧ X1 = X ∧ M1 = (if xs_beg (M 103 0) = 0 then si M 100 0 else si M 100 (xs_beg (M 103 0))) ∧ K1 = K)) 0 0 A := by
  refine met_ofW [(0, .ref (ad 42))] (by decide +kernel) (Nat.le_of_ble_eq_true rfl) rfl ?_
  intro G C hl hR hL hD hcy hA had hsa hr hQ
  subst hD hcy hA had hsa hl
  refine g_aload_n C dX11_holds_0 0 rfl ?_
  refine g_iconst C dX11_holds_1 (v := 0) (by decide) ?_
  refine pf_X11_thrown C tw1243 dX11_holds_2 ?_
  refine g_aload_n C dX11_holds_5 0 rfl ?_
  refine g_aload_n C dX11_holds_6 0 rfl ?_
  refine gf_X11_wasBegun C tw1246 dX11_holds_7 ?_
  refine g_if_ne C dX11_holds_10 (tgt := 17) (by decide) (fun c_10 => ?_) (fun c_10 => ?_)
  · try simp only [sa_ap, si_ap, reduceIte, Nat.reduceEqDiff, up_us, lg_cmp_lt, lg_cmp_gt, lg_cmp_le, lg_cmp_ge] at c_10
    refine g_iconst C dX11_holds_17 (v := 0) (by decide) ?_
    refine g_iconst C dX11_holds_18 (v := 1) (by decide) ?_
    refine g_callViW C dX11_holds_19 (c_X11_fails_0 _ _ _ _ _ _ _ _ _ _ (by rfl)) tw1412 tw1414 tp14 tw16 tw1415 (rv_X11 C) rfl ⟨by decide +kernel, by decide +kernel, rfl⟩ ⟨rfl, rfl⟩ (by rw [hR]; decide) (Nat.le_of_ble_eq_true rfl) (by rw [hR]; decide) (fun r_1 X1 M1 K1 h_2 => ?_)
    obtain ⟨rfl, hX1, hM1, hK1⟩ := h_2
    subst X1 M1 K1
    refine g_if_eq C dX11_holds_22 (tgt := 29) (by decide) (fun c_22 => ?_) (fun c_22 => absurd (by decide) c_22)
    refine g_aload_n C dX11_holds_29 0 rfl ?_
    refine gf_X11_holds C tw1250 dX11_holds_30 ?_
    refine g_iretW C hr hQ (Nat.le_refl _) (Nat.le_refl _) dX11_holds_33 ?_
    exact ⟨(by first | with_reducible rfl | (first | with_reducible rfl | (simp only [sa_ap, si_ap, si_sa, sa_sa, sa_3, sa_4, sa_5, sa_6, sa_7, sa_8, xs_beg, up_us, up_up, xs_b, c_10]; done) | (simp [sa_ap, si_ap, si_sa, sa_sa, sa_3, sa_4, sa_5, sa_6, sa_7, sa_8, xs_beg, up_us, up_up, xs_b, c_10]; done))), rfl, (by first | with_reducible rfl | (first | with_reducible rfl | (simp only [sa_ap, si_ap, si_sa, sa_sa, sa_3, sa_4, sa_5, sa_6, sa_7, sa_8, xs_beg, up_us, up_up, xs_b, c_10]; done) | (simp [sa_ap, si_ap, si_sa, sa_sa, sa_3, sa_4, sa_5, sa_6, sa_7, sa_8, xs_beg, up_us, up_up, xs_b, c_10]; done))), rfl⟩
  · try simp only [sa_ap, si_ap, reduceIte, Nat.reduceEqDiff, up_us, lg_cmp_lt, lg_cmp_gt, lg_cmp_le, lg_cmp_ge] at c_10
    refine g_iconst C dX11_holds_13 (v := 1) (by decide) ?_
    refine g_goto C dX11_holds_14 (tgt := 18) (by decide) ?_
    refine g_iconst C dX11_holds_18 (v := 1) (by decide) ?_
    refine g_callViW C dX11_holds_19 (c_X11_fails_1 _ _ _ _ _ _ _ _ _ _ (by rfl) (by decide)) tw1412 tw1414 tp14 tw16 tw1415 (rv_X11 C) rfl ⟨by decide +kernel, by decide +kernel, rfl⟩ ⟨rfl, rfl⟩ (by rw [hR]; decide) (Nat.le_of_ble_eq_true rfl) (by rw [hR]; decide) (fun r_3 X1 M1 K1 h_4 => ?_)
    obtain ⟨rfl, hX1, hM1, hK1⟩ := h_4
    subst X1 M1 K1
    refine g_if_eq C dX11_holds_22 (tgt := 29) (by decide) (fun c_22 => absurd c_22 (by decide)) (fun c_22 => ?_)
    refine g_iconst C dX11_holds_25 (v := 0) (by decide) ?_
    refine g_goto C dX11_holds_26 (tgt := 33) (by decide) ?_
    refine g_iretW C hr hQ (Nat.le_refl _) (Nat.le_refl _) dX11_holds_33 ?_
    exact ⟨(by first | with_reducible rfl | (first | with_reducible rfl | (simp only [sa_ap, si_ap, si_sa, sa_sa, sa_3, sa_4, sa_5, sa_6, sa_7, sa_8, xs_beg, up_us, up_up, xs_b, c_10]; done) | (simp [sa_ap, si_ap, si_sa, sa_sa, sa_3, sa_4, sa_5, sa_6, sa_7, sa_8, xs_beg, up_us, up_up, xs_b, c_10]; done))), rfl, (by first | with_reducible rfl | (first | with_reducible rfl | (simp only [sa_ap, si_ap, si_sa, sa_sa, sa_3, sa_4, sa_5, sa_6, sa_7, sa_8, xs_beg, up_us, up_up, xs_b, c_10]; done) | (simp [sa_ap, si_ap, si_sa, sa_sa, sa_3, sa_4, sa_5, sa_6, sa_7, sa_8, xs_beg, up_us, up_up, xs_b, c_10]; done))), rfl⟩

set_option maxHeartbeats 400000 in
set_option maxRecDepth 100000 in
/-- cause.cause -/
theorem c_X11_cause (l : Launch) (D : va_G) (cy : Nat → ClassId) (A : Nat → Prop) (ad sad : Nat → Nat) (X M : XF) (K : KF) (hc : isCh (M 107 0)) : Met l yX11_cause (wsA yX11_cause cX11_cause 1 (some .char)) ({ frames := 1, cells := 0, slots := 0, locals := 22 }) (PcW D cy A ad sad X M K [.ref (ad 42)]) (QiW D cy A ad (fun r X1 M1 K1 => r = (if xs_cau (M 102 0) = 0 then M 107 0 else 0) ∧ X1 = X ∧ M1 = (if xs_cau (M 102 0) = 0 then si M 100 0 else si M 100 (xs_cau (M 102 0))) ∧ K1 = K)) 0 0 A := by
  refine met_ofW [(0, .ref (ad 42))] (by decide +kernel) (Nat.le_of_ble_eq_true rfl) rfl ?_
  intro G C hl hR hL hD hcy hA had hsa hr hQ
  subst hD hcy hA had hsa hl
  refine g_aload_n C dX11_cause_0 0 rfl ?_
  refine g_iconst C dX11_cause_1 (v := 0) (by decide) ?_
  refine pf_X11_thrown C tw1243 dX11_cause_2 ?_
  refine g_aload_n C dX11_cause_5 0 rfl ?_
  refine g_aload_n C dX11_cause_6 0 rfl ?_
  refine g_callViW C dX11_cause_7 (c_X11_hasCause _ _ _ _ _ _ _ _ _ ) tw1706 tw1708 tp37 tw16 tw1709 (rv_X11 C) rfl ⟨by decide +kernel, by decide +kernel, rfl⟩ ⟨rfl, rfl⟩ (by rw [hR]; decide) (Nat.le_of_ble_eq_true rfl) (by rw [hR]; decide) (fun r_1 X1 M1 K1 h_2 => ?_)
  obtain ⟨er_1, hX1, hM1, hK1⟩ := h_2
  subst X1 M1 K1
  try simp only [sa_ap, si_ap, reduceIte, Nat.reduceEqDiff] at er_1
  refine g_if_ne C dX11_cause_10 (tgt := 17) (by decide) (fun c_10 => ?_) (fun c_10 => ?_)
  · try simp only [sa_ap, si_ap, reduceIte, Nat.reduceEqDiff, up_us, lg_cmp_lt, lg_cmp_gt, lg_cmp_le, lg_cmp_ge] at c_10
    refine g_iconst C dX11_cause_17 (v := 0) (by decide) ?_
    refine g_iconst C dX11_cause_18 (v := 1) (by decide) ?_
    refine g_callViW C dX11_cause_19 (c_X11_fails_0 _ _ _ _ _ _ _ _ _ _ (by rfl)) tw1412 tw1414 tp14 tw16 tw1415 (rv_X11 C) rfl ⟨by decide +kernel, by decide +kernel, rfl⟩ ⟨rfl, rfl⟩ (by rw [hR]; decide) (Nat.le_of_ble_eq_true rfl) (by rw [hR]; decide) (fun r_3 X1 M1 K1 h_4 => ?_)
    obtain ⟨rfl, hX1, hM1, hK1⟩ := h_4
    subst X1 M1 K1
    refine g_if_eq C dX11_cause_22 (tgt := 29) (by decide) (fun c_22 => ?_) (fun c_22 => absurd (by decide) c_22)
    refine g_aload_n C dX11_cause_29 0 rfl ?_
    refine gf_X11_cause C tw1252 dX11_cause_30 ?_
    refine g_zretW C hr (by first | decide | exact hc.1) hQ (Nat.le_refl _) (Nat.le_refl _) dX11_cause_33 ?_
    exact ⟨(by first | with_reducible rfl | (subst er_1; first | with_reducible rfl | (simp only [sa_ap, si_ap, si_sa, sa_sa, sa_3, sa_4, sa_5, sa_6, sa_7, sa_8, xs_cau, up_us, up_up, xs_b, c_10]; done) | (simp [sa_ap, si_ap, si_sa, sa_sa, sa_3, sa_4, sa_5, sa_6, sa_7, sa_8, xs_cau, up_us, up_up, xs_b, c_10]; done))), rfl, (by first | with_reducible rfl | (subst er_1; first | with_reducible rfl | (simp only [sa_ap, si_ap, si_sa, sa_sa, sa_3, sa_4, sa_5, sa_6, sa_7, sa_8, xs_cau, up_us, up_up, xs_b, c_10]; done) | (simp [sa_ap, si_ap, si_sa, sa_sa, sa_3, sa_4, sa_5, sa_6, sa_7, sa_8, xs_cau, up_us, up_up, xs_b, c_10]; done))), rfl⟩
  · try simp only [sa_ap, si_ap, reduceIte, Nat.reduceEqDiff, up_us, lg_cmp_lt, lg_cmp_gt, lg_cmp_le, lg_cmp_ge] at c_10
    refine g_iconst C dX11_cause_13 (v := 1) (by decide) ?_
    refine g_goto C dX11_cause_14 (tgt := 18) (by decide) ?_
    refine g_iconst C dX11_cause_18 (v := 1) (by decide) ?_
    refine g_callViW C dX11_cause_19 (c_X11_fails_1 _ _ _ _ _ _ _ _ _ _ (by rfl) (by decide)) tw1412 tw1414 tp14 tw16 tw1415 (rv_X11 C) rfl ⟨by decide +kernel, by decide +kernel, rfl⟩ ⟨rfl, rfl⟩ (by rw [hR]; decide) (Nat.le_of_ble_eq_true rfl) (by rw [hR]; decide) (fun r_5 X1 M1 K1 h_6 => ?_)
    obtain ⟨rfl, hX1, hM1, hK1⟩ := h_6
    subst X1 M1 K1
    refine g_if_eq C dX11_cause_22 (tgt := 29) (by decide) (fun c_22 => absurd c_22 (by decide)) (fun c_22 => ?_)
    refine g_iconst C dX11_cause_25 (v := 0) (by decide) ?_
    refine g_goto C dX11_cause_26 (tgt := 33) (by decide) ?_
    refine g_zretW C hr (by first | decide | exact hc.1) hQ (Nat.le_refl _) (Nat.le_refl _) dX11_cause_33 ?_
    exact ⟨(by first | with_reducible rfl | (subst er_1; first | with_reducible rfl | (simp only [sa_ap, si_ap, si_sa, sa_sa, sa_3, sa_4, sa_5, sa_6, sa_7, sa_8, xs_cau, up_us, up_up, xs_b, c_10]; done) | (simp [sa_ap, si_ap, si_sa, sa_sa, sa_3, sa_4, sa_5, sa_6, sa_7, sa_8, xs_cau, up_us, up_up, xs_b, c_10]; done))), rfl, (by first | with_reducible rfl | (subst er_1; first | with_reducible rfl | (simp only [sa_ap, si_ap, si_sa, sa_sa, sa_3, sa_4, sa_5, sa_6, sa_7, sa_8, xs_cau, up_us, up_up, xs_b, c_10]; done) | (simp [sa_ap, si_ap, si_sa, sa_sa, sa_3, sa_4, sa_5, sa_6, sa_7, sa_8, xs_cau, up_us, up_up, xs_b, c_10]; done))), rfl⟩

set_option maxHeartbeats 400000 in
set_option maxRecDepth 100000 in
/-- causeRule.causeRule -/
theorem c_X11_causeRule (l : Launch) (D : va_G) (cy : Nat → ClassId) (A : Nat → Prop) (ad sad : Nat → Nat) (X M : XF) (K : KF) : Met l yX11_causeRule (wsA yX11_causeRule cX11_causeRule 1 (some .int)) ({ frames := 1, cells := 0, slots := 0, locals := 22 }) (PcW D cy A ad sad X M K [.ref (ad 42)]) (QiW D cy A ad (fun r X1 M1 K1 => r = (if xs_car (M 102 0) (M 108 0) = 0 then M 108 0 else 0) ∧ X1 = X ∧ M1 = (if xs_car (M 102 0) (M 108 0) = 0 then si M 100 0 else si M 100 (xs_car (M 102 0) (M 108 0))) ∧ K1 = K)) 0 0 A := by
  refine met_ofW [(0, .ref (ad 42))] (by decide +kernel) (Nat.le_of_ble_eq_true rfl) rfl ?_
  intro G C hl hR hL hD hcy hA had hsa hr hQ
  subst hD hcy hA had hsa hl
  refine g_aload_n C dX11_causeRule_0 0 rfl ?_
  refine g_iconst C dX11_causeRule_1 (v := 0) (by decide) ?_
  refine pf_X11_thrown C tw1243 dX11_causeRule_2 ?_
  refine g_aload_n C dX11_causeRule_5 0 rfl ?_
  refine g_aload_n C dX11_causeRule_6 0 rfl ?_
  refine g_callViW C dX11_causeRule_7 (c_X11_hasCause _ _ _ _ _ _ _ _ _ ) tw1706 tw1708 tp37 tw16 tw1709 (rv_X11 C) rfl ⟨by decide +kernel, by decide +kernel, rfl⟩ ⟨rfl, rfl⟩ (by rw [hR]; decide) (Nat.le_of_ble_eq_true rfl) (by rw [hR]; decide) (fun r_1 X1 M1 K1 h_2 => ?_)
  obtain ⟨er_1, hX1, hM1, hK1⟩ := h_2
  subst X1 M1 K1
  try simp only [sa_ap, si_ap, reduceIte, Nat.reduceEqDiff] at er_1
  refine g_if_eq C dX11_causeRule_10 (tgt := 21) (by decide) (fun c_10 => ?_) (fun c_10 => ?_)
  · try simp only [sa_ap, si_ap, reduceIte, Nat.reduceEqDiff, up_us, lg_cmp_lt, lg_cmp_gt, lg_cmp_le, lg_cmp_ge] at c_10
    refine g_iconst C dX11_causeRule_21 (v := 1) (by decide) ?_
    refine g_goto C dX11_causeRule_22 (tgt := 26) (by decide) ?_
    refine g_iconst C dX11_causeRule_26 (v := 1) (by decide) ?_
    refine g_callViW C dX11_causeRule_27 (c_X11_fails_1 _ _ _ _ _ _ _ _ _ _ (by rfl) (by decide)) tw1412 tw1414 tp14 tw16 tw1415 (rv_X11 C) rfl ⟨by decide +kernel, by decide +kernel, rfl⟩ ⟨rfl, rfl⟩ (by rw [hR]; decide) (Nat.le_of_ble_eq_true rfl) (by rw [hR]; decide) (fun r_3 X1 M1 K1 h_4 => ?_)
    obtain ⟨rfl, hX1, hM1, hK1⟩ := h_4
    subst X1 M1 K1
    refine g_if_eq C dX11_causeRule_30 (tgt := 37) (by decide) (fun c_30 => absurd c_30 (by decide)) (fun c_30 => ?_)
    refine g_iconst C dX11_causeRule_33 (v := 0) (by decide) ?_
    refine g_goto C dX11_causeRule_34 (tgt := 41) (by decide) ?_
    refine g_iretW C hr hQ (Nat.le_refl _) (Nat.le_refl _) dX11_causeRule_41 ?_
    exact ⟨(by first | with_reducible rfl | (subst er_1; first | with_reducible rfl | (simp only [sa_ap, si_ap, si_sa, sa_sa, sa_3, sa_4, sa_5, sa_6, sa_7, sa_8, xs_car, up_us, up_up, xs_b, c_10]; done) | (simp [sa_ap, si_ap, si_sa, sa_sa, sa_3, sa_4, sa_5, sa_6, sa_7, sa_8, xs_car, up_us, up_up, xs_b, c_10]; done))), rfl, (by first | with_reducible rfl | (subst er_1; first | with_reducible rfl | (simp only [sa_ap, si_ap, si_sa, sa_sa, sa_3, sa_4, sa_5, sa_6, sa_7, sa_8, xs_car, up_us, up_up, xs_b, c_10]; done) | (simp [sa_ap, si_ap, si_sa, sa_sa, sa_3, sa_4, sa_5, sa_6, sa_7, sa_8, xs_car, up_us, up_up, xs_b, c_10]; done))), rfl⟩
  · try simp only [sa_ap, si_ap, reduceIte, Nat.reduceEqDiff, up_us, lg_cmp_lt, lg_cmp_gt, lg_cmp_le, lg_cmp_ge] at c_10
    refine g_aload_n C dX11_causeRule_13 0 rfl ?_
    refine gf_X11_causeRule C tw1253 dX11_causeRule_14 ?_
    refine g_iconst C dX11_causeRule_17 (v := (-1)) (by decide) ?_
    refine g_icmp_ne C dX11_causeRule_18 (tgt := 25) (by decide) (fun c_18 => ?_) (fun c_18 => ?_)
    · try simp only [sa_ap, si_ap, reduceIte, Nat.reduceEqDiff, up_us, lg_cmp_lt, lg_cmp_gt, lg_cmp_le, lg_cmp_ge] at c_18
      refine g_iconst C dX11_causeRule_25 (v := 0) (by decide) ?_
      refine g_iconst C dX11_causeRule_26 (v := 1) (by decide) ?_
      refine g_callViW C dX11_causeRule_27 (c_X11_fails_0 _ _ _ _ _ _ _ _ _ _ (by rfl)) tw1412 tw1414 tp14 tw16 tw1415 (rv_X11 C) rfl ⟨by decide +kernel, by decide +kernel, rfl⟩ ⟨rfl, rfl⟩ (by rw [hR]; decide) (Nat.le_of_ble_eq_true rfl) (by rw [hR]; decide) (fun r_5 X1 M1 K1 h_6 => ?_)
      obtain ⟨rfl, hX1, hM1, hK1⟩ := h_6
      subst X1 M1 K1
      refine g_if_eq C dX11_causeRule_30 (tgt := 37) (by decide) (fun c_30 => ?_) (fun c_30 => absurd (by decide) c_30)
      refine g_aload_n C dX11_causeRule_37 0 rfl ?_
      refine gf_X11_causeRule C tw1253 dX11_causeRule_38 ?_
      refine g_iretW C hr hQ (Nat.le_refl _) (Nat.le_refl _) dX11_causeRule_41 ?_
      exact ⟨(by first | with_reducible rfl | (subst er_1; first | with_reducible rfl | (simp only [sa_ap, si_ap, si_sa, sa_sa, sa_3, sa_4, sa_5, sa_6, sa_7, sa_8, xs_car, up_us, up_up, xs_b, c_10, c_18]; done) | (simp [sa_ap, si_ap, si_sa, sa_sa, sa_3, sa_4, sa_5, sa_6, sa_7, sa_8, xs_car, up_us, up_up, xs_b, c_10, c_18]; done))), rfl, (by first | with_reducible rfl | (subst er_1; first | with_reducible rfl | (simp only [sa_ap, si_ap, si_sa, sa_sa, sa_3, sa_4, sa_5, sa_6, sa_7, sa_8, xs_car, up_us, up_up, xs_b, c_10, c_18]; done) | (simp [sa_ap, si_ap, si_sa, sa_sa, sa_3, sa_4, sa_5, sa_6, sa_7, sa_8, xs_car, up_us, up_up, xs_b, c_10, c_18]; done))), rfl⟩
    · try simp only [sa_ap, si_ap, reduceIte, Nat.reduceEqDiff, up_us, lg_cmp_lt, lg_cmp_gt, lg_cmp_le, lg_cmp_ge] at c_18
      refine g_iconst C dX11_causeRule_21 (v := 1) (by decide) ?_
      refine g_goto C dX11_causeRule_22 (tgt := 26) (by decide) ?_
      refine g_iconst C dX11_causeRule_26 (v := 1) (by decide) ?_
      refine g_callViW C dX11_causeRule_27 (c_X11_fails_1 _ _ _ _ _ _ _ _ _ _ (by rfl) (by decide)) tw1412 tw1414 tp14 tw16 tw1415 (rv_X11 C) rfl ⟨by decide +kernel, by decide +kernel, rfl⟩ ⟨rfl, rfl⟩ (by rw [hR]; decide) (Nat.le_of_ble_eq_true rfl) (by rw [hR]; decide) (fun r_7 X1 M1 K1 h_8 => ?_)
      obtain ⟨rfl, hX1, hM1, hK1⟩ := h_8
      subst X1 M1 K1
      refine g_if_eq C dX11_causeRule_30 (tgt := 37) (by decide) (fun c_30 => absurd c_30 (by decide)) (fun c_30 => ?_)
      refine g_iconst C dX11_causeRule_33 (v := 0) (by decide) ?_
      refine g_goto C dX11_causeRule_34 (tgt := 41) (by decide) ?_
      refine g_iretW C hr hQ (Nat.le_refl _) (Nat.le_refl _) dX11_causeRule_41 ?_
      exact ⟨(by first | with_reducible rfl | (subst er_1; first | with_reducible rfl | (simp only [sa_ap, si_ap, si_sa, sa_sa, sa_3, sa_4, sa_5, sa_6, sa_7, sa_8, xs_car, up_us, up_up, xs_b, c_10, c_18]; done) | (simp [sa_ap, si_ap, si_sa, sa_sa, sa_3, sa_4, sa_5, sa_6, sa_7, sa_8, xs_car, up_us, up_up, xs_b, c_10, c_18]; done))), rfl, (by first | with_reducible rfl | (subst er_1; first | with_reducible rfl | (simp only [sa_ap, si_ap, si_sa, sa_sa, sa_3, sa_4, sa_5, sa_6, sa_7, sa_8, xs_car, up_us, up_up, xs_b, c_10, c_18]; done) | (simp [sa_ap, si_ap, si_sa, sa_sa, sa_3, sa_4, sa_5, sa_6, sa_7, sa_8, xs_car, up_us, up_up, xs_b, c_10, c_18]; done))), rfl⟩
