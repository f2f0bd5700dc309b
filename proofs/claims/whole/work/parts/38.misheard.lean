/-! misheard -/
theorem dv_g {a b : Nat} (ha : a < 2147483648) (hb : b < 2147483648) : nI a / nI b = nI (a / b) := by
  have hd := Nat.div_le_self a b
  rw [← Int32.toInt_inj, Int32.toInt_div, nI_toInt ha, nI_toInt hb, nI_toInt (by omega), ← Int.ofNat_tdiv]
  generalize a / b = q at hd ⊢
  apply Int.bmod_eq_of_le <;> omega
theorem rm_g {a b : Nat} (ha : a < 2147483648) (hb : b < 2147483648) : mRem (nI a) (nI b) = nI (a % b) := by
  unfold mRem
  rw [dv_g ha hb, nI_mul, nI_sub (Nat.div_mul_le_self a b)]
  congr 1
  have := Nat.div_add_mod a b
  rw [Nat.mul_comm] at this
  omega
def fT (k : KS) (s i d e : Nat) : Bool := inC (hC (hC k.h i d) i e) k.fold s
theorem x_fT {S : mS} {k : KS} {s i d e : Nat} (hL : Ly S) (v : VK k) (hr : RH S 2 k.h) (hF : S.2.1 1 5 = nI k.fold) (hs : s < k.h.f) (hi : i < k.h.w) (hd : d < 5) (he : e < 5) : ∃ S1, f_X6_isFoldedByTwo (nI 0) (nI s) (nI i) (nI d) (nI e) S = some (if fT k s i d e = true then 1 else 0, S1) ∧ Ly S1 ∧ Fr 65 70 S S1 := by
  have ht := v.2.1
  have hf := v.1.2.1
  have v1 : VH (hC k.h i d) := VH_C v.1 (by omega) hi hd
  have v2 : VH (hC (hC k.h i d) i e) := VH_C v1 (by show k.h.t + 1 + 1 ≤ 20000; omega) hi he
  obtain ⟨A, a1, a2, a3, a4⟩ := x_copy h65 h2_ (by decide) hL hr v.1.1 v.1.2.1
  obtain ⟨B, b1, b2, b3, b4⟩ := x_call h65 a2 a3 v.1 hi hd
  obtain ⟨C, c1, c2, c3, c4⟩ := x_call h65 b2 b3 v1 hi he
  have hF3 : C.2.1 1 5 = nI k.fold := by rw [c4.2.1 1 (by omega), b4.2.1 1 (by omega), a4.2.1 1 (by omega)]; exact hF
  have si := x_sIn h65 c2 c3 v2 v.2.2.1
  have hb := (x_hasB (v := bI (inC (hC (hC k.h i d) i e) k.fold) (hC (hC k.h i d) i e).f) (show s < 32 by omega)).1
  rw [bI_tb _ _ (show (hC (hC k.h i d) i e).f ≤ 32 from (show k.h.f ≤ 32 by omega)) _ (by omega), show decide (s < (hC (hC k.h i d) i e).f) = true from decide_eq_true hs, Bool.true_and] at hb
  refine ⟨C, ?_, c2, Fr_tr a4 (Fr_tr b4 c4)⟩
  simp (maxDischargeDepth := 40) only [f_X6_isFoldedByTwo, hL, gc_0, gc_1, gc_2, gc_3, gc_4, gc_5, Ly_put, kcf, kca, a1, a2, b1, b2, c1, c2, hF3, si, hb, mCp_e, mC_e, mCv_e, mZ_0, mZ_1, mZ_ifb, if_true, if_false, n10, eq_self, reduceCtorEq, Bool.false_eq_true, Nat.add_zero, Nat.reduceAdd]
  rfl
def wgt (c u : Nat) : Nat := if u = 1 then c else 10 - c
def gM (k : KS) (s i d e c u w : Nat) : Nat := if fT k s i ((d + u) % 5) ((e + w) % 5) = true then wgt c u * wgt c w else 0
theorem hd4 : ∀ j, j < 4 → nI j / 2 = nI (j / 2) ∧ mRem (nI j) 2 = nI (j % 2) := by decide +kernel
theorem rm5 {a b : Nat} (ha : a < 5) (hb : b < 5) : mRem (nI a + nI b) 5 = nI ((a + b) % 5) := by
  rw [nI_add]
  exact rm_g (b := 5) (by omega) (by decide)
theorem wgt_le {c u : Nat} (hc : c ≤ 10) : wgt c u ≤ 10 := by
  unfold wgt
  split <;> omega
theorem gM_le {k : KS} {s i d e c u w : Nat} (hc : c ≤ 10) : gM k s i d e c u w ≤ 100 := by
  unfold gM
  split
  · exact Nat.mul_le_mul (wgt_le hc) (wgt_le hc)
  · exact Nat.zero_le _
theorem x_ml {S : mS} {k : KS} {s i d e c : Nat} (hL : Ly S) (v : VK k) (ck : CK S 1 k) (hs : s < k.h.f) (hi : i < k.h.w) (hd : d < 5) (he : e < 5) (hc : c ≤ 10) : ∃ S1, f_X6_misheard_67 f_X6_misheard_155 1000 (nI 0) (nI s) (nI i) (nI d) (nI e) (nI c) 0 0 S = f_X6_misheard_155 (nI 0) (nI (sm (fun h => gM k s i d e c (h / 2) (h % 2)) 4)) S1 ∧ Ly S1 ∧ Fr 65 70 S S1 := by
  obtain ⟨m, ⟨a, S2⟩, ⟨p1, p2, p3⟩, e0⟩ := lupI (fun n j (t : Int32 × mS) => f_X6_misheard_67 f_X6_misheard_155 n (nI 0) (nI s) (nI i) (nI d) (nI e) (nI c) t.1 (nI j) t.2) (fun j (t : Int32 × mS) => t.1 = nI (sm (fun h => gM k s i d e c (h / 2) (h % 2)) j) ∧ Ly t.2 ∧ Fr 65 70 S t.2) 4 (by
    rintro n j ⟨a, T⟩ hj ⟨(q1 : a = _), (q2 : Ly T), (q3 : Fr 65 70 S T)⟩
    have le : ((4 : Int32) ≤ nI j) = False := eq_false (nI_ge hj (by decide))
    have d4 := hd4 j hj
    have u2 : j / 2 < 2 := by omega
    have w2 : j % 2 < 2 := by omega
    have e1 : (nI (j / 2) = 1) = (j / 2 = 1) := eq_i (b := 1) (by omega) (by decide)
    have e2 : (nI (j % 2) = 1) = (j % 2 = 1) := eq_i (b := 1) (by omega) (by decide)
    have t10 : 10 - nI c = nI (10 - c) := nI_sub (a := 10) (b := c) hc
    have r51 : mRem (nI (d + j / 2)) 5 = nI ((d + j / 2) % 5) := rm_g (b := 5) (by omega) (by decide)
    have r52 : mRem (nI (e + j % 2)) 5 = nI ((e + j % 2) % 5) := rm_g (b := 5) (by omega) (by decide)
    obtain ⟨U, z1, z2, z3⟩ := x_fT (d := (d + j / 2) % 5) (e := (e + j % 2) % 5) q2 v (RH_sa (q3.sa (by omega)) ck.2.1) (by rw [q3.2.1 1 (by omega)]; exact ck.1) hs hi (by omega) (by omega)
    refine ⟨(nI (sm (fun h => gM k s i d e c (h / 2) (h % 2)) (j + 1)), U), ⟨rfl, z2, Fr_tr q3 z3⟩, ?_⟩
    show f_X6_misheard_67 f_X6_misheard_155 (n + 1) _ _ _ _ _ _ a (nI j) T = _
    rw [f_X6_misheard_67_s, sm_s, q1]
    simp (maxDischargeDepth := 40) only [le, d4.1, d4.2, e1, e2, f_X6_misheard_101, f_X6_misheard_117, f_X6_misheard_149, q2, gc_0, gc_1, gc_2, gc_3, gc_4, gc_5, Ly_put, kcf, kca, r51, r52, z1, t10, nI_mul, nI_add, nI_1, mCp_e, mC_e, mCv_e, mZ_0, mZ_1, mZ_ifb, if_true, if_false, n10, eq_self, reduceCtorEq, Bool.false_eq_true, Nat.add_zero, Nat.reduceAdd]
    unfold gM wgt
    cases fT k s i ((d + j / 2) % 5) ((e + j % 2) % 5) <;> by_cases x1 : j / 2 = 1 <;> by_cases x2 : j % 2 = 1 <;> simp [x1, x2]) 1000 (nI 0, S) ⟨rfl, hL, Fr_rf⟩ (by decide)
  refine ⟨S2, ?_, p2, p3⟩
  refine Eq.trans e0 ?_
  have le4 : ((4 : Int32) ≤ nI 4) = True := by decide
  have p1' : a = _ := p1
  show f_X6_misheard_67 f_X6_misheard_155 (m + 1) _ _ _ _ _ _ a (nI 4) S2 = _
  rw [f_X6_misheard_67_s, p1']
  simp (maxDischargeDepth := 40) only [le4, mCp_e, mC_e, mCv_e, mZ_0, mZ_1, mZ_ifb, if_true, if_false, n10, eq_self, reduceCtorEq, Bool.false_eq_true, Nat.add_zero, Nat.reduceAdd]
theorem y_ml {S : mS} {k : KS} {s i d e c : Nat} (hL : Ly S) (v : VK k) (mk : MK S k) (hs : s < k.h.f) (hi : i < k.h.w) (hd : d < 5) (he : e < 5) (hc : c ≤ 10) : f_X7_misheard_53 f_X7_misheard_200 1000 (nI 83) (nI s) (nI i) (nI d) (nI e) (nI c) 0 0 S = f_X7_misheard_200 (nI 83) (lN (sm (fun h => gM k s i d e c (h % 2) (h / 2)) 4)) S := by
  have hr : RM S k.h := mk.2.1
  have ht := v.2.1
  have hw := v.1.1
  have hf := v.1.2.1
  have i3 : i < 3 := by omega
  have s7 : s < 7 := by omega
  have h4 : S.2.1 83 4 = nI k.h.t := hr.2.2.1
  have hwc : S.2.1 86 i = nI (k.h.wc i) := (hr.2.2.2.1 i hi).2
  have hsc : S.2.1 88 s = nI (k.h.sc s) := (hr.2.2.2.2 s hs).2
  obtain ⟨m, e0⟩ := lup (fun n j => f_X7_misheard_53 f_X7_misheard_200 n (nI 83) (nI s) (nI i) (nI d) (nI e) (nI c) (lN (sm (fun h => gM k s i d e c (h % 2) (h / 2)) j)) (nI j) S) 4 (fun n j hj => by
    have le : ((4 : Int32) ≤ nI j) = False := eq_false (nI_ge hj (by decide))
    have d4 := hd4 j hj
    have e1 : (nI (j / 2) = 1) = (j / 2 = 1) := eq_i (b := 1) (by omega) (by decide)
    have e2 : (nI (j % 2) = 1) = (j % 2 = 1) := eq_i (b := 1) (by omega) (by decide)
    have t10 : 10 - nI c = nI (10 - c) := nI_sub (a := 10) (b := c) hc
    have D5 : (d + j % 2) % 5 < 5 := by omega
    have E5 : (e + j / 2) % 5 < 5 := by omega
    have g1 := aT_lt (t := k.h.t) v.1 hi D5
    have g2 := aG_lt v.1 hs hi D5
    have v1 : VH (hC k.h i ((d + j % 2) % 5)) := VH_C v.1 (by omega) hi D5
    have g3 : aT (hC k.h i ((d + j % 2) % 5)) i ((e + j / 2) % 5) (k.h.t + 1) < 25 := aT_lt v1 hi E5
    have w1 := y_wTh hL hr v.1 hi (v.1.2.2.2.1 i hi).2 D5 v.1.2.2.1
    rw [show pMv (k.h.wc i) ((d + j % 2) % 5) (pR (k.h.wk i) k.h.t) = aT k.h i ((d + j % 2) % 5) k.h.t from rfl] at w1
    have w2 := y_sTh hL hr v.1 hs (v.1.2.2.2.2 s hs).2 g1
    rw [show pGv (k.h.sk s) (k.h.sc s) (aT k.h i ((d + j % 2) % 5) k.h.t) = aG k.h s i ((d + j % 2) % 5) from rfl] at w2
    have w3 := y_wTh hL hr v.1 hi g1 E5 (show k.h.t + 1 ≤ 20000 by omega)
    have aTe : pMv (aT k.h i ((d + j % 2) % 5) k.h.t) ((e + j / 2) % 5) (pR (k.h.wk i) (k.h.t + 1)) = aT (hC k.h i ((d + j % 2) % 5)) i ((e + j / 2) % 5) (k.h.t + 1) := by
      show _ = pMv (if i = i then aT k.h i ((d + j % 2) % 5) k.h.t else k.h.wc i) _ _
      rw [if_pos rfl]
      rfl
    rw [aTe] at w3
    have w4 := y_sTh hL hr v.1 hs g2 g3
    have eqf : (nI (pGv (k.h.sk s) (aG k.h s i ((d + j % 2) % 5)) (aT (hC k.h i ((d + j % 2) % 5)) i ((e + j / 2) % 5) (k.h.t + 1))) = nI k.fold) = (fT k s i ((d + j % 2) % 5) ((e + j / 2) % 5) = true) := by
      rw [eq_i (by have := p_gives _ (v.1.2.2.2.2 s hs).1 _ g2 _ g3; omega) (by have := v.2.2.1; omega)]
      unfold fT inC
      rw [decide_eq_true_eq]
      rfl
    have l0 : wgt c (j % 2) * wgt c (j / 2) ≤ 10 * 10 := Nat.mul_le_mul (wgt_le (u := j % 2) hc) (wgt_le (u := j / 2) hc)
    have l1 : (nI (wgt c (j % 2) * wgt c (j / 2))).toInt64 = lN (wgt c (j % 2) * wgt c (j / 2)) := nI_l (Nat.lt_of_le_of_lt l0 (by decide))
    have cv : ∀ x y : Nat, (nI x * nI y : Int32) = nI (x * y) := nI_mul
    have st : f_X7_misheard_53 f_X7_misheard_200 (n + 1) (nI 83) (nI s) (nI i) (nI d) (nI e) (nI c) (lN (sm (fun h => gM k s i d e c (h % 2) (h / 2)) j)) (nI j) S = if fT k s i ((d + j % 2) % 5) ((e + j / 2) % 5) = true then f_X7_misheard_53 f_X7_misheard_200 n (nI 83) (nI s) (nI i) (nI d) (nI e) (nI c) (lN (sm (fun h => gM k s i d e c (h % 2) (h / 2)) j) + (nI (wgt c (j % 2) * wgt c (j / 2))).toInt64) (nI (j + 1)) S else f_X7_misheard_53 f_X7_misheard_200 n (nI 83) (nI s) (nI i) (nI d) (nI e) (nI c) (lN (sm (fun h => gM k s i d e c (h % 2) (h / 2)) j) + 0) (nI (j + 1)) S := by
      rw [f_X7_misheard_53_s]
      simp (maxDischargeDepth := 40) only [le, d4.1, d4.2, e1, e2, f_X7_misheard_152, f_X7_misheard_170, f_X7_misheard_191, hL, gc_0, gc_1, gc_2, gc_3, gc_4, gc_5, Ly_put, kcf, kca, i3, s7, h4, hwc, hsc, rm5 hd (show j % 2 < 5 by omega), rm5 he (show j / 2 < 5 by omega), w1, w2, w3, w4, mk.1, eqf, t10, nI_mul, nI_1, mCp_e, mC_e, mCv_e, mZ_0, mZ_1, mZ_ifb, if_true, if_false, n10, eq_self, reduceCtorEq, Bool.false_eq_true, Nat.add_zero, Nat.reduceAdd]
      unfold wgt
      by_cases x1 : j / 2 = 1 <;> by_cases x2 : j % 2 = 1 <;> simp (maxDischargeDepth := 40) only [x1, x2, if_true, if_false]
    show f_X7_misheard_53 f_X7_misheard_200 (n + 1) _ _ _ _ _ _ _ _ S = _
    rw [st, sm_s]
    unfold gM
    cases fT k s i ((d + j % 2) % 5) ((e + j / 2) % 5)
    · simp (maxDischargeDepth := 40) only [mCp_e, mC_e, mCv_e, mZ_0, mZ_1, mZ_ifb, if_true, if_false, n10, eq_self, reduceCtorEq, Bool.false_eq_true, Nat.add_zero, Nat.reduceAdd, Int64.add_zero]
    · simp (maxDischargeDepth := 40) only [mCp_e, mC_e, mCv_e, mZ_0, mZ_1, mZ_ifb, if_true, if_false, n10, eq_self, reduceCtorEq, Bool.false_eq_true, Nat.add_zero, Nat.reduceAdd, l1, lN_add]) 1000 (by decide)
  refine Eq.trans e0 ?_
  have le4 : ((4 : Int32) ≤ nI 4) = True := by decide
  rw [f_X7_misheard_53_s]
  simp (maxDischargeDepth := 40) only [le4, mCp_e, mC_e, mCv_e, mZ_0, mZ_1, mZ_ifb, if_true, if_false, n10, eq_self, reduceCtorEq, Bool.false_eq_true, Nat.add_zero, Nat.reduceAdd]
