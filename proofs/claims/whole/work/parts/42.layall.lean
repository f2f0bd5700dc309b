/-! all laid by: the loops, one by one -/
theorem y_la78 {S : mS} {a t : Nat} {K : Int32 → Int32 → Int32 → mS → Option mS} (hL : Ly S) (hk : mKd a = 8) (ha : a = 93 ∨ a = 98) (hl : t + 170 ≤ mLn a) : ∃ S1, f_X7_layAll_78 K 1000 (nI 83) (nI a) (nI t) 0 S = K (nI 83) (nI a) (nI t) S1 ∧ Ly S1 ∧ Fr a (a + 1) S S1 ∧ (∀ i, i < 3 → S1.2.1 a (t + 18 + i) = S.2.1 85 i) ∧ ∀ j, j < t + 18 ∨ t + 18 + 3 ≤ j → S1.2.1 a j = S.2.1 a j := by
  have hl2 := mLn_lt a
  obtain ⟨m, S1, ⟨p1, p2, p3, p4⟩, e⟩ := lupI (fun n j (s : mS) => f_X7_layAll_78 K n (nI 83) (nI a) (nI t) (nI j) s) (fun j (s : mS) => Ly s ∧ Fr a (a + 1) S s ∧ (∀ i, i < j → s.2.1 a (t + 18 + i) = S.2.1 85 i) ∧ ∀ j, j < t + 18 ∨ t + 18 + 3 ≤ j → s.2.1 a j = S.2.1 a j) 3 (by
    rintro n j s hj ⟨q1, q2, q3, q4⟩
    refine ⟨mPut s a (t + 18 + j) (S.2.1 85 j), ⟨Ly_put q1 (cst_arr (Or.inl hk)), Fr_tr q2 (Fr_put (by omega) (by omega)), fun i hi => ?_, fun i hi => by rw [mPut_g, if_neg (by omega)]; exact q4 i hi⟩, ?_⟩
    · rw [mPut_g]
      by_cases h : i = j
      · rw [if_pos ⟨rfl, by omega⟩, h]
      · rw [if_neg (by omega)]
        exact q3 i (by omega)
    · show f_X7_layAll_78 K (n + 1) _ _ _ _ s = _
      have le : ((3 : Int32) ≤ nI j) = False := eq_false (nI_ge hj (by decide))
      have e4 : nI t + 18 = nI (t + 18) := nI_add t 18
      rw [f_X7_layAll_78_s]
      simp (maxDischargeDepth := 40) only [le, q1, gc_0, gc_1, gc_2, gc_3, gc_4, gc_5, Ly_put, kcf, kca, hj, e4, nI_1, nI_add, mXs_e (S := s) q1.1 hk (show t + 18 + j < mLn a by omega), q2.2.1 85 (by omega), mCp_e, mC_e, mCv_e, mZ_0, mZ_1, mZ_ifb, if_true, if_false, n10, eq_self, reduceCtorEq, Bool.false_eq_true, Nat.add_zero, Nat.reduceAdd]) 1000 S ⟨hL, Fr_rf, fun i hi => absurd hi (Nat.not_lt_zero i), fun _ _ => rfl⟩ (by decide)
  refine ⟨S1, ?_, p1, p2, p3, p4⟩
  refine Eq.trans e ?_
  have le : ((3 : Int32) ≤ nI 3) = True := eq_true (ng_i (a := 3))
  rw [f_X7_layAll_78_s]
  simp (maxDischargeDepth := 40) only [le, if_true]
theorem y_la105 {S : mS} {a t : Nat} {K : Int32 → Int32 → Int32 → mS → Option mS} (hL : Ly S) (hk : mKd a = 8) (ha : a = 93 ∨ a = 98) (hl : t + 170 ≤ mLn a) : ∃ S1, f_X7_layAll_105 K 1000 (nI 83) (nI a) (nI t) 0 S = K (nI 83) (nI a) (nI t) S1 ∧ Ly S1 ∧ Fr a (a + 1) S S1 ∧ (∀ i, i < 7 → S1.2.1 a (t + 21 + i) = S.2.1 87 i) ∧ ∀ j, j < t + 21 ∨ t + 21 + 7 ≤ j → S1.2.1 a j = S.2.1 a j := by
  have hl2 := mLn_lt a
  obtain ⟨m, S1, ⟨p1, p2, p3, p4⟩, e⟩ := lupI (fun n j (s : mS) => f_X7_layAll_105 K n (nI 83) (nI a) (nI t) (nI j) s) (fun j (s : mS) => Ly s ∧ Fr a (a + 1) S s ∧ (∀ i, i < j → s.2.1 a (t + 21 + i) = S.2.1 87 i) ∧ ∀ j, j < t + 21 ∨ t + 21 + 7 ≤ j → s.2.1 a j = S.2.1 a j) 7 (by
    rintro n j s hj ⟨q1, q2, q3, q4⟩
    refine ⟨mPut s a (t + 21 + j) (S.2.1 87 j), ⟨Ly_put q1 (cst_arr (Or.inl hk)), Fr_tr q2 (Fr_put (by omega) (by omega)), fun i hi => ?_, fun i hi => by rw [mPut_g, if_neg (by omega)]; exact q4 i hi⟩, ?_⟩
    · rw [mPut_g]
      by_cases h : i = j
      · rw [if_pos ⟨rfl, by omega⟩, h]
      · rw [if_neg (by omega)]
        exact q3 i (by omega)
    · show f_X7_layAll_105 K (n + 1) _ _ _ _ s = _
      have le : ((7 : Int32) ≤ nI j) = False := eq_false (nI_ge hj (by decide))
      have e4 : nI t + 21 = nI (t + 21) := nI_add t 21
      rw [f_X7_layAll_105_s]
      simp (maxDischargeDepth := 40) only [le, q1, gc_0, gc_1, gc_2, gc_3, gc_4, gc_5, Ly_put, kcf, kca, hj, e4, nI_1, nI_add, mXs_e (S := s) q1.1 hk (show t + 21 + j < mLn a by omega), q2.2.1 87 (by omega), mCp_e, mC_e, mCv_e, mZ_0, mZ_1, mZ_ifb, if_true, if_false, n10, eq_self, reduceCtorEq, Bool.false_eq_true, Nat.add_zero, Nat.reduceAdd]) 1000 S ⟨hL, Fr_rf, fun i hi => absurd hi (Nat.not_lt_zero i), fun _ _ => rfl⟩ (by decide)
  refine ⟨S1, ?_, p1, p2, p3, p4⟩
  refine Eq.trans e ?_
  have le : ((7 : Int32) ≤ nI 7) = True := eq_true (ng_i (a := 7))
  rw [f_X7_layAll_105_s]
  simp (maxDischargeDepth := 40) only [le, if_true]
theorem y_la133 {S : mS} {a t : Nat} {K : Int32 → Int32 → Int32 → mS → Option mS} (hL : Ly S) (hk : mKd a = 8) (ha : a = 93 ∨ a = 98) (hl : t + 170 ≤ mLn a) : ∃ S1, f_X7_layAll_133 K 1000 (nI 83) (nI a) (nI t) 0 S = K (nI 83) (nI a) (nI t) S1 ∧ Ly S1 ∧ Fr a (a + 1) S S1 ∧ (∀ i, i < 10 → S1.2.1 a (t + 28 + i) = S.2.1 89 i) ∧ ∀ j, j < t + 28 ∨ t + 28 + 10 ≤ j → S1.2.1 a j = S.2.1 a j := by
  have hl2 := mLn_lt a
  obtain ⟨m, S1, ⟨p1, p2, p3, p4⟩, e⟩ := lupI (fun n j (s : mS) => f_X7_layAll_133 K n (nI 83) (nI a) (nI t) (nI j) s) (fun j (s : mS) => Ly s ∧ Fr a (a + 1) S s ∧ (∀ i, i < j → s.2.1 a (t + 28 + i) = S.2.1 89 i) ∧ ∀ j, j < t + 28 ∨ t + 28 + 10 ≤ j → s.2.1 a j = S.2.1 a j) 10 (by
    rintro n j s hj ⟨q1, q2, q3, q4⟩
    refine ⟨mPut s a (t + 28 + j) (S.2.1 89 j), ⟨Ly_put q1 (cst_arr (Or.inl hk)), Fr_tr q2 (Fr_put (by omega) (by omega)), fun i hi => ?_, fun i hi => by rw [mPut_g, if_neg (by omega)]; exact q4 i hi⟩, ?_⟩
    · rw [mPut_g]
      by_cases h : i = j
      · rw [if_pos ⟨rfl, by omega⟩, h]
      · rw [if_neg (by omega)]
        exact q3 i (by omega)
    · show f_X7_layAll_133 K (n + 1) _ _ _ _ s = _
      have le : ((10 : Int32) ≤ nI j) = False := eq_false (nI_ge hj (by decide))
      have e4 : nI t + 28 = nI (t + 28) := nI_add t 28
      rw [f_X7_layAll_133_s]
      simp (maxDischargeDepth := 40) only [le, q1, gc_0, gc_1, gc_2, gc_3, gc_4, gc_5, Ly_put, kcf, kca, hj, e4, nI_1, nI_add, mXs_e (S := s) q1.1 hk (show t + 28 + j < mLn a by omega), q2.2.1 89 (by omega), mCp_e, mC_e, mCv_e, mZ_0, mZ_1, mZ_ifb, if_true, if_false, n10, eq_self, reduceCtorEq, Bool.false_eq_true, Nat.add_zero, Nat.reduceAdd]) 1000 S ⟨hL, Fr_rf, fun i hi => absurd hi (Nat.not_lt_zero i), fun _ _ => rfl⟩ (by decide)
  refine ⟨S1, ?_, p1, p2, p3, p4⟩
  refine Eq.trans e ?_
  have le : ((10 : Int32) ≤ nI 10) = True := eq_true (ng_i (a := 10))
  rw [f_X7_layAll_133_s]
  simp (maxDischargeDepth := 40) only [le, if_true]
theorem y_la203 {S : mS} {a t : Nat} {K : mS → Option mS} (hL : Ly S) (hk : mKd a = 8) (ha : a = 93 ∨ a = 98) (hl : t + 170 ≤ mLn a) : ∃ S1, f_X7_layAll_203 K 1000 (nI 83) (nI a) (nI t) 0 S = K S1 ∧ Ly S1 ∧ Fr a (a + 1) S S1 ∧ (∀ i, i < 88 → S1.2.1 a (t + 74 + i) = S.2.1 94 i) ∧ ∀ j, j < t + 74 ∨ t + 74 + 88 ≤ j → S1.2.1 a j = S.2.1 a j := by
  have hl2 := mLn_lt a
  obtain ⟨m, S1, ⟨p1, p2, p3, p4⟩, e⟩ := lupI (fun n j (s : mS) => f_X7_layAll_203 K n (nI 83) (nI a) (nI t) (nI j) s) (fun j (s : mS) => Ly s ∧ Fr a (a + 1) S s ∧ (∀ i, i < j → s.2.1 a (t + 74 + i) = S.2.1 94 i) ∧ ∀ j, j < t + 74 ∨ t + 74 + 88 ≤ j → s.2.1 a j = S.2.1 a j) 88 (by
    rintro n j s hj ⟨q1, q2, q3, q4⟩
    refine ⟨mPut s a (t + 74 + j) (S.2.1 94 j), ⟨Ly_put q1 (cst_arr (Or.inl hk)), Fr_tr q2 (Fr_put (by omega) (by omega)), fun i hi => ?_, fun i hi => by rw [mPut_g, if_neg (by omega)]; exact q4 i hi⟩, ?_⟩
    · rw [mPut_g]
      by_cases h : i = j
      · rw [if_pos ⟨rfl, by omega⟩, h]
      · rw [if_neg (by omega)]
        exact q3 i (by omega)
    · show f_X7_layAll_203 K (n + 1) _ _ _ _ s = _
      have le : ((88 : Int32) ≤ nI j) = False := eq_false (nI_ge hj (by decide))
      have e4 : nI t + 74 = nI (t + 74) := nI_add t 74
      rw [f_X7_layAll_203_s]
      simp (maxDischargeDepth := 40) only [le, q1, gc_0, gc_1, gc_2, gc_3, gc_4, gc_5, Ly_put, kcf, kca, hj, e4, nI_1, nI_add, mXs_e (S := s) q1.1 hk (show t + 74 + j < mLn a by omega), q2.2.1 94 (by omega), mCp_e, mC_e, mCv_e, mZ_0, mZ_1, mZ_ifb, if_true, if_false, n10, eq_self, reduceCtorEq, Bool.false_eq_true, Nat.add_zero, Nat.reduceAdd]) 1000 S ⟨hL, Fr_rf, fun i hi => absurd hi (Nat.not_lt_zero i), fun _ _ => rfl⟩ (by decide)
  refine ⟨S1, ?_, p1, p2, p3, p4⟩
  refine Eq.trans e ?_
  have le : ((88 : Int32) ≤ nI 88) = True := eq_true (ng_i (a := 88))
  rw [f_X7_layAll_203_s]
  simp (maxDischargeDepth := 40) only [le, if_true]
theorem y_la161 {S : mS} {a t : Nat} {K : Int32 → Int32 → Int32 → mS → Option mS} (hL : Ly S) (hk : mKd a = 8) (ha : a = 93 ∨ a = 98) (hl : t + 170 ≤ mLn a) : ∃ S1, f_X7_layAll_161 K 1000 (nI 83) (nI a) (nI t) 0 S = K (nI 83) (nI a) (nI t) S1 ∧ Ly S1 ∧ Fr a (a + 1) S S1 ∧ (∀ i, i < 18 → S1.2.1 a (t + 38 + i) = S.2.1 90 i) ∧ (∀ i, i < 18 → S1.2.1 a (t + 56 + i) = S.2.1 91 i) ∧ ∀ j, j < t + 38 ∨ t + 74 ≤ j → S1.2.1 a j = S.2.1 a j := by
  have hl2 := mLn_lt a
  obtain ⟨m, S1, ⟨p1, p2, p3, p4, p5⟩, e⟩ := lupI (fun n j (s : mS) => f_X7_layAll_161 K n (nI 83) (nI a) (nI t) (nI j) s) (fun j (s : mS) => Ly s ∧ Fr a (a + 1) S s ∧ (∀ i, i < j → s.2.1 a (t + 38 + i) = S.2.1 90 i) ∧ (∀ i, i < j → s.2.1 a (t + 56 + i) = S.2.1 91 i) ∧ ∀ j, j < t + 38 ∨ t + 74 ≤ j → s.2.1 a j = S.2.1 a j) 18 (by
    rintro n j s hj ⟨q1, q2, q3, q4, q5⟩
    have hL1 : Ly (mPut s a (t + 38 + j) (S.2.1 90 j)) := Ly_put q1 (cst_arr (Or.inl hk))
    have r91 : (mPut s a (t + 38 + j) (S.2.1 90 j)).2.1 91 j = S.2.1 91 j := by rw [mPut_r _ _ _ _ _ (by omega), q2.2.1 91 (by omega)]
    refine ⟨mPut (mPut s a (t + 38 + j) (S.2.1 90 j)) a (t + 56 + j) (S.2.1 91 j), ⟨Ly_put hL1 (cst_arr (Or.inl hk)), Fr_tr q2 (Fr_tr (Fr_put (by omega) (by omega)) (Fr_put (by omega) (by omega))), fun i hi => ?_, fun i hi => ?_, fun i hi => by rw [mPut_g, if_neg (by omega), mPut_g, if_neg (by omega)]; exact q5 i hi⟩, ?_⟩
    · rw [mPut_g, if_neg (by omega), mPut_g]
      by_cases h : i = j
      · rw [if_pos ⟨rfl, by omega⟩, h]
      · rw [if_neg (by omega)]
        exact q3 i (by omega)
    · rw [mPut_g]
      by_cases h : i = j
      · rw [if_pos ⟨rfl, by omega⟩, h]
      · rw [if_neg (by omega), mPut_g, if_neg (by omega)]
        exact q4 i (by omega)
    · show f_X7_layAll_161 K (n + 1) _ _ _ _ s = _
      have le : ((18 : Int32) ≤ nI j) = False := eq_false (nI_ge hj (by decide))
      have e4 : nI t + 38 = nI (t + 38) := nI_add t 38
      have e5 : nI t + 56 = nI (t + 56) := nI_add t 56
      rw [f_X7_layAll_161_s]
      simp (maxDischargeDepth := 40) only [le, q1, gc_0, gc_1, gc_2, gc_3, gc_4, gc_5, Ly_put, kcf, kca, hj, e4, e5, nI_1, nI_add, mXs_e (S := s) q1.1 hk (show t + 38 + j < mLn a by omega), q2.2.1 90 (by omega), hL1, r91, mXs_e (S := mPut s a (t + 38 + j) (S.2.1 90 j)) hL1.1 hk (show t + 56 + j < mLn a by omega), mCp_e, mC_e, mCv_e, mZ_0, mZ_1, mZ_ifb, if_true, if_false, n10, eq_self, reduceCtorEq, Bool.false_eq_true, Nat.add_zero, Nat.reduceAdd]) 1000 S ⟨hL, Fr_rf, fun i hi => absurd hi (Nat.not_lt_zero i), fun i hi => absurd hi (Nat.not_lt_zero i), fun _ _ => rfl⟩ (by decide)
  refine ⟨S1, ?_, p1, p2, p3, p4, p5⟩
  refine Eq.trans e ?_
  have le : ((18 : Int32) ≤ nI 18) = True := eq_true (ng_i (a := 18))
  rw [f_X7_layAll_161_s]
  simp (maxDischargeDepth := 40) only [le, if_true]
