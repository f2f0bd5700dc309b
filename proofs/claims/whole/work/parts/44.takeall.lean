/-! all taken back -/
theorem y_ta78 {S : mS} {a t : Nat} {K : Int32 → Int32 → Int32 → mS → Option mS} (hL : Ly S) (hk : mKd a = 8) (ha : a = 93 ∨ a = 98) (hl : t + 170 ≤ mLn a) : ∃ S1, f_X7_takeAll_78 K 1000 (nI 83) (nI a) (nI t) 0 S = K (nI 83) (nI a) (nI t) S1 ∧ Ly S1 ∧ Fr 85 (85 + 1) S S1 ∧ ∀ i, i < 3 → S1.2.1 85 i = S.2.1 a (t + 18 + i) := by
  have hl2 := mLn_lt a
  obtain ⟨m, S1, ⟨p1, p2, p3⟩, e⟩ := lupI (fun n j (s : mS) => f_X7_takeAll_78 K n (nI 83) (nI a) (nI t) (nI j) s) (fun j (s : mS) => Ly s ∧ Fr 85 (85 + 1) S s ∧ ∀ i, i < j → s.2.1 85 i = S.2.1 a (t + 18 + i)) 3 (by
    rintro n j s hj ⟨q1, q2, q3⟩
    refine ⟨mPut s 85 j (S.2.1 a (t + 18 + j)), ⟨Ly_put q1 (cst_arr (Or.inl rfl)), Fr_tr q2 (Fr_put (by omega) (by omega)), fun i hi => ?_⟩, ?_⟩
    · rw [mPut_g]
      by_cases h : i = j
      · rw [if_pos ⟨rfl, h⟩, h]
      · rw [if_neg (by omega)]
        exact q3 i (by omega)
    · show f_X7_takeAll_78 K (n + 1) _ _ _ _ s = _
      have le : ((3 : Int32) ≤ nI j) = False := eq_false (nI_ge hj (by decide))
      have e4 : nI t + 18 = nI (t + 18) := nI_add t 18
      rw [f_X7_takeAll_78_s]
      simp (maxDischargeDepth := 40) only [le, q1, gc_0, gc_1, gc_2, gc_3, gc_4, gc_5, Ly_put, kcf, kca, hj, e4, nI_1, nI_add, mX_e (S := s) q1.1 hk (by decide) (show t + 18 + j < mLn a by omega), q2.2.1 a (by omega), mCp_e, mC_e, mCv_e, mZ_0, mZ_1, mZ_ifb, if_true, if_false, n10, eq_self, reduceCtorEq, Bool.false_eq_true, Nat.add_zero, Nat.reduceAdd]) 1000 S ⟨hL, Fr_rf, fun i hi => absurd hi (Nat.not_lt_zero i)⟩ (by decide)
  refine ⟨S1, ?_, p1, p2, p3⟩
  refine Eq.trans e ?_
  have le : ((3 : Int32) ≤ nI 3) = True := eq_true (ng_i (a := 3))
  rw [f_X7_takeAll_78_s]
  simp (maxDischargeDepth := 40) only [le, if_true]
theorem y_ta105 {S : mS} {a t : Nat} {K : Int32 → Int32 → Int32 → mS → Option mS} (hL : Ly S) (hk : mKd a = 8) (ha : a = 93 ∨ a = 98) (hl : t + 170 ≤ mLn a) : ∃ S1, f_X7_takeAll_105 K 1000 (nI 83) (nI a) (nI t) 0 S = K (nI 83) (nI a) (nI t) S1 ∧ Ly S1 ∧ Fr 87 (87 + 1) S S1 ∧ ∀ i, i < 7 → S1.2.1 87 i = S.2.1 a (t + 21 + i) := by
  have hl2 := mLn_lt a
  obtain ⟨m, S1, ⟨p1, p2, p3⟩, e⟩ := lupI (fun n j (s : mS) => f_X7_takeAll_105 K n (nI 83) (nI a) (nI t) (nI j) s) (fun j (s : mS) => Ly s ∧ Fr 87 (87 + 1) S s ∧ ∀ i, i < j → s.2.1 87 i = S.2.1 a (t + 21 + i)) 7 (by
    rintro n j s hj ⟨q1, q2, q3⟩
    refine ⟨mPut s 87 j (S.2.1 a (t + 21 + j)), ⟨Ly_put q1 (cst_arr (Or.inl rfl)), Fr_tr q2 (Fr_put (by omega) (by omega)), fun i hi => ?_⟩, ?_⟩
    · rw [mPut_g]
      by_cases h : i = j
      · rw [if_pos ⟨rfl, h⟩, h]
      · rw [if_neg (by omega)]
        exact q3 i (by omega)
    · show f_X7_takeAll_105 K (n + 1) _ _ _ _ s = _
      have le : ((7 : Int32) ≤ nI j) = False := eq_false (nI_ge hj (by decide))
      have e4 : nI t + 21 = nI (t + 21) := nI_add t 21
      rw [f_X7_takeAll_105_s]
      simp (maxDischargeDepth := 40) only [le, q1, gc_0, gc_1, gc_2, gc_3, gc_4, gc_5, Ly_put, kcf, kca, hj, e4, nI_1, nI_add, mX_e (S := s) q1.1 hk (by decide) (show t + 21 + j < mLn a by omega), q2.2.1 a (by omega), mCp_e, mC_e, mCv_e, mZ_0, mZ_1, mZ_ifb, if_true, if_false, n10, eq_self, reduceCtorEq, Bool.false_eq_true, Nat.add_zero, Nat.reduceAdd]) 1000 S ⟨hL, Fr_rf, fun i hi => absurd hi (Nat.not_lt_zero i)⟩ (by decide)
  refine ⟨S1, ?_, p1, p2, p3⟩
  refine Eq.trans e ?_
  have le : ((7 : Int32) ≤ nI 7) = True := eq_true (ng_i (a := 7))
  rw [f_X7_takeAll_105_s]
  simp (maxDischargeDepth := 40) only [le, if_true]
theorem y_ta133 {S : mS} {a t : Nat} {K : Int32 → Int32 → Int32 → mS → Option mS} (hL : Ly S) (hk : mKd a = 8) (ha : a = 93 ∨ a = 98) (hl : t + 170 ≤ mLn a) : ∃ S1, f_X7_takeAll_133 K 1000 (nI 83) (nI a) (nI t) 0 S = K (nI 83) (nI a) (nI t) S1 ∧ Ly S1 ∧ Fr 89 (89 + 1) S S1 ∧ ∀ i, i < 10 → S1.2.1 89 i = S.2.1 a (t + 28 + i) := by
  have hl2 := mLn_lt a
  obtain ⟨m, S1, ⟨p1, p2, p3⟩, e⟩ := lupI (fun n j (s : mS) => f_X7_takeAll_133 K n (nI 83) (nI a) (nI t) (nI j) s) (fun j (s : mS) => Ly s ∧ Fr 89 (89 + 1) S s ∧ ∀ i, i < j → s.2.1 89 i = S.2.1 a (t + 28 + i)) 10 (by
    rintro n j s hj ⟨q1, q2, q3⟩
    refine ⟨mPut s 89 j (S.2.1 a (t + 28 + j)), ⟨Ly_put q1 (cst_arr (Or.inl rfl)), Fr_tr q2 (Fr_put (by omega) (by omega)), fun i hi => ?_⟩, ?_⟩
    · rw [mPut_g]
      by_cases h : i = j
      · rw [if_pos ⟨rfl, h⟩, h]
      · rw [if_neg (by omega)]
        exact q3 i (by omega)
    · show f_X7_takeAll_133 K (n + 1) _ _ _ _ s = _
      have le : ((10 : Int32) ≤ nI j) = False := eq_false (nI_ge hj (by decide))
      have e4 : nI t + 28 = nI (t + 28) := nI_add t 28
      rw [f_X7_takeAll_133_s]
      simp (maxDischargeDepth := 40) only [le, q1, gc_0, gc_1, gc_2, gc_3, gc_4, gc_5, Ly_put, kcf, kca, hj, e4, nI_1, nI_add, mX_e (S := s) q1.1 hk (by decide) (show t + 28 + j < mLn a by omega), q2.2.1 a (by omega), mCp_e, mC_e, mCv_e, mZ_0, mZ_1, mZ_ifb, if_true, if_false, n10, eq_self, reduceCtorEq, Bool.false_eq_true, Nat.add_zero, Nat.reduceAdd]) 1000 S ⟨hL, Fr_rf, fun i hi => absurd hi (Nat.not_lt_zero i)⟩ (by decide)
  refine ⟨S1, ?_, p1, p2, p3⟩
  refine Eq.trans e ?_
  have le : ((10 : Int32) ≤ nI 10) = True := eq_true (ng_i (a := 10))
  rw [f_X7_takeAll_133_s]
  simp (maxDischargeDepth := 40) only [le, if_true]
theorem y_ta203 {S : mS} {a t : Nat} {K : mS → Option mS} (hL : Ly S) (hk : mKd a = 8) (ha : a = 93 ∨ a = 98) (hl : t + 170 ≤ mLn a) : ∃ S1, f_X7_takeAll_203 K 1000 (nI 83) (nI a) (nI t) 0 S = K S1 ∧ Ly S1 ∧ Fr 94 (94 + 1) S S1 ∧ ∀ i, i < 88 → S1.2.1 94 i = S.2.1 a (t + 74 + i) := by
  have hl2 := mLn_lt a
  obtain ⟨m, S1, ⟨p1, p2, p3⟩, e⟩ := lupI (fun n j (s : mS) => f_X7_takeAll_203 K n (nI 83) (nI a) (nI t) (nI j) s) (fun j (s : mS) => Ly s ∧ Fr 94 (94 + 1) S s ∧ ∀ i, i < j → s.2.1 94 i = S.2.1 a (t + 74 + i)) 88 (by
    rintro n j s hj ⟨q1, q2, q3⟩
    refine ⟨mPut s 94 j (S.2.1 a (t + 74 + j)), ⟨Ly_put q1 (cst_arr (Or.inl rfl)), Fr_tr q2 (Fr_put (by omega) (by omega)), fun i hi => ?_⟩, ?_⟩
    · rw [mPut_g]
      by_cases h : i = j
      · rw [if_pos ⟨rfl, h⟩, h]
      · rw [if_neg (by omega)]
        exact q3 i (by omega)
    · show f_X7_takeAll_203 K (n + 1) _ _ _ _ s = _
      have le : ((88 : Int32) ≤ nI j) = False := eq_false (nI_ge hj (by decide))
      have e4 : nI t + 74 = nI (t + 74) := nI_add t 74
      rw [f_X7_takeAll_203_s]
      simp (maxDischargeDepth := 40) only [le, q1, gc_0, gc_1, gc_2, gc_3, gc_4, gc_5, Ly_put, kcf, kca, hj, e4, nI_1, nI_add, mX_e (S := s) q1.1 hk (by decide) (show t + 74 + j < mLn a by omega), q2.2.1 a (by omega), mCp_e, mC_e, mCv_e, mZ_0, mZ_1, mZ_ifb, if_true, if_false, n10, eq_self, reduceCtorEq, Bool.false_eq_true, Nat.add_zero, Nat.reduceAdd]) 1000 S ⟨hL, Fr_rf, fun i hi => absurd hi (Nat.not_lt_zero i)⟩ (by decide)
  refine ⟨S1, ?_, p1, p2, p3⟩
  refine Eq.trans e ?_
  have le : ((88 : Int32) ≤ nI 88) = True := eq_true (ng_i (a := 88))
  rw [f_X7_takeAll_203_s]
  simp (maxDischargeDepth := 40) only [le, if_true]
theorem y_ta161 {S : mS} {a t : Nat} {K : Int32 → Int32 → Int32 → mS → Option mS} (hL : Ly S) (hk : mKd a = 8) (ha : a = 93 ∨ a = 98) (hl : t + 170 ≤ mLn a) : ∃ S1, f_X7_takeAll_161 K 1000 (nI 83) (nI a) (nI t) 0 S = K (nI 83) (nI a) (nI t) S1 ∧ Ly S1 ∧ Fr 90 92 S S1 ∧ (∀ i, i < 18 → S1.2.1 90 i = S.2.1 a (t + 38 + i)) ∧ ∀ i, i < 18 → S1.2.1 91 i = S.2.1 a (t + 56 + i) := by
  have hl2 := mLn_lt a
  obtain ⟨m, S1, ⟨p1, p2, p3, p4⟩, e⟩ := lupI (fun n j (s : mS) => f_X7_takeAll_161 K n (nI 83) (nI a) (nI t) (nI j) s) (fun j (s : mS) => Ly s ∧ Fr 90 92 S s ∧ (∀ i, i < j → s.2.1 90 i = S.2.1 a (t + 38 + i)) ∧ ∀ i, i < j → s.2.1 91 i = S.2.1 a (t + 56 + i)) 18 (by
    rintro n j s hj ⟨q1, q2, q3, q4⟩
    have hL1 : Ly (mPut s 90 j (S.2.1 a (t + 38 + j))) := Ly_put q1 (cst_arr (Or.inl rfl))
    have ra : (mPut s 90 j (S.2.1 a (t + 38 + j))).2.1 a (t + 56 + j) = S.2.1 a (t + 56 + j) := by rw [mPut_r _ _ _ _ _ (by omega), q2.2.1 a (by omega)]
    refine ⟨mPut (mPut s 90 j (S.2.1 a (t + 38 + j))) 91 j (S.2.1 a (t + 56 + j)), ⟨Ly_put hL1 (cst_arr (Or.inl rfl)), Fr_tr q2 (Fr_tr (Fr_put (by omega) (by omega)) (Fr_put (by omega) (by omega))), fun i hi => ?_, fun i hi => ?_⟩, ?_⟩
    · rw [mPut_r _ _ _ _ _ (by decide), mPut_g]
      by_cases h : i = j
      · rw [if_pos ⟨rfl, h⟩, h]
      · rw [if_neg (by omega)]
        exact q3 i (by omega)
    · rw [mPut_g]
      by_cases h : i = j
      · rw [if_pos ⟨rfl, h⟩, h]
      · rw [if_neg (by omega), mPut_r _ _ _ _ _ (by decide)]
        exact q4 i (by omega)
    · show f_X7_takeAll_161 K (n + 1) _ _ _ _ s = _
      have le : ((18 : Int32) ≤ nI j) = False := eq_false (nI_ge hj (by decide))
      have e4 : nI t + 38 = nI (t + 38) := nI_add t 38
      have e5 : nI t + 56 = nI (t + 56) := nI_add t 56
      rw [f_X7_takeAll_161_s]
      simp (maxDischargeDepth := 40) only [le, q1, gc_0, gc_1, gc_2, gc_3, gc_4, gc_5, Ly_put, kcf, kca, hj, e4, e5, nI_1, nI_add, mX_e (S := s) q1.1 hk (by decide) (show t + 38 + j < mLn a by omega), q2.2.1 a (by omega), hL1, mX_e (S := mPut s 90 j (S.2.1 a (t + 38 + j))) hL1.1 hk (by decide) (show t + 56 + j < mLn a by omega), ra, mCp_e, mC_e, mCv_e, mZ_0, mZ_1, mZ_ifb, if_true, if_false, n10, eq_self, reduceCtorEq, Bool.false_eq_true, Nat.add_zero, Nat.reduceAdd]) 1000 S ⟨hL, Fr_rf, fun i hi => absurd hi (Nat.not_lt_zero i), fun i hi => absurd hi (Nat.not_lt_zero i)⟩ (by decide)
  refine ⟨S1, ?_, p1, p2, p3, p4⟩
  refine Eq.trans e ?_
  have le : ((18 : Int32) ≤ nI 18) = True := eq_true (ng_i (a := 18))
  rw [f_X7_takeAll_161_s]
  simp (maxDischargeDepth := 40) only [le, if_true]
theorem y_takeAll {S : mS} {k : KS} {a t : Nat} (hL : Ly S) (v : VK k) (mi : MI S a t k) (hk : mKd a = 8) (ha : a = 93 ∨ a = 98) (hl : t + 170 ≤ mLn a) : ∃ S1, f_X7_takeAll (nI 83) (nI a) (nI t) S = some S1 ∧ Ly S1 ∧ MK S1 k ∧ (∀ q, q < 83 ∨ q = 84 ∨ q = 92 ∨ q = 93 ∨ 95 ≤ q → S1.2.1 q = S.2.1 q) ∧ (∀ j, 8 ≤ j → j ≠ 21 → S1.2.1 83 j = S.2.1 83 j) ∧ S1.2.2 = S.2.2 := by
  have hl2 := mLn_lt a
  have hw := v.1.1
  have hf := v.1.2.1
  obtain ⟨m1, ⟨r1, r2, r3, r4, r5⟩, m3, m4, m5, m6⟩ := mi
  obtain ⟨A, l1, l2, l3, l4, l5, l6⟩ := y_takes (a := a) (at_ := t) hL hk (by omega) (by omega)
  have Aa : A.2.1 a = S.2.1 a := l3.2.1 a (by omega) (by omega) (by omega)
  obtain ⟨T, hT⟩ : ∃ T, T = mPut (mPut (mPut (mPut (mPut (mPut (mPut A 83 1 (nI k.h.w)) 83 2 (nI k.h.f)) 83 3 (nI k.fold)) 83 5 (nI k.seen.1)) 83 6 (nI k.notes.1)) 83 7 (nI k.marks.1)) 83 21 (nI k.past.1) := ⟨_, rfl⟩
  have hLT : Ly T := by rw [hT]; simp (maxDischargeDepth := 40) only [l2, Ly_put, kcf]
  have rT : ∀ q, q ≠ 83 → T.2.1 q = A.2.1 q := fun q hq => by rw [hT, mPut_r _ _ _ _ _ hq, mPut_r _ _ _ _ _ hq, mPut_r _ _ _ _ _ hq, mPut_r _ _ _ _ _ hq, mPut_r _ _ _ _ _ hq, mPut_r _ _ _ _ _ hq, mPut_r _ _ _ _ _ hq]
  obtain ⟨B, b1, b2, b3, b4⟩ := y_ta78 (K := f_X7_takeAll_103) hLT hk ha hl
  obtain ⟨C, c1, c2, c3, c4⟩ := y_ta105 (K := f_X7_takeAll_131) b2 hk ha hl
  obtain ⟨D, d1, d2, d3, d4⟩ := y_ta133 (K := f_X7_takeAll_159) c2 hk ha hl
  obtain ⟨E, e1, e2, e3, e4, e5⟩ := y_ta161 (K := f_X7_takeAll_201) d2 hk ha hl
  obtain ⟨F, g1, g2, g3, g4⟩ := y_ta203 (K := f_X7_takeAll_229) e2 hk ha hl
  have Ta : T.2.1 a = S.2.1 a := by rw [rT a (by omega), Aa]
  have Ba : B.2.1 a = S.2.1 a := by rw [b3.2.1 a (by omega), Ta]
  have Ca : C.2.1 a = S.2.1 a := by rw [c3.2.1 a (by omega), Ba]
  have Da : D.2.1 a = S.2.1 a := by rw [d3.2.1 a (by omega), Ca]
  have Ea : E.2.1 a = S.2.1 a := by rw [e3.2.1 a (by omega), Da]
  have frF : ∀ q, q ≠ 85 → q ≠ 87 → q ≠ 89 → q ≠ 90 → q ≠ 91 → q ≠ 94 → F.2.1 q = T.2.1 q := fun q h1 h2 h3 h4 h5 h6 => by rw [g3.2.1 q (by omega), e3.2.1 q (by omega), d3.2.1 q (by omega), c3.2.1 q (by omega), b3.2.1 q (by omega)]
  have F83 : F.2.1 83 = T.2.1 83 := frF 83 (by decide) (by decide) (by decide) (by decide) (by decide) (by decide)
  have t83 : ∀ j, T.2.1 83 j = if j = 21 then nI k.past.1 else if j = 7 then nI k.marks.1 else if j = 6 then nI k.notes.1 else if j = 5 then nI k.seen.1 else if j = 3 then nI k.fold else if j = 2 then nI k.h.f else if j = 1 then nI k.h.w else A.2.1 83 j := fun j => by
    rw [hT, mPut_g, mPut_g, mPut_g, mPut_g, mPut_g, mPut_g, mPut_g]
    simp (maxDischargeDepth := 40) only [true_and]
  refine ⟨F, ?_, g2, ⟨by rw [F83, t83]; rfl, ⟨by rw [F83, t83]; rfl, by rw [F83, t83]; rfl, ?_, fun i hi => ⟨?_, ?_⟩, fun i hi => ⟨?_, ?_⟩⟩, ⟨by rw [F83, t83]; rfl, fun r hr c hc => ?_⟩, ⟨by rw [F83, t83]; rfl, fun r hr c hc => ?_⟩, ⟨by rw [F83, t83]; rfl, fun r hr c hc => ?_⟩, ⟨by rw [F83, t83]; rfl, fun r hr => ⟨?_, fun i hi => ?_, fun i hi => ?_⟩⟩⟩, fun q hq => ?_, fun j h1 h2 => ?_, ?_⟩
  · have x : ∀ (Z : mS) (n : Nat), Ly Z → n ≤ 17 → ∀ K : Int32 → Option mS, mX 8 (nI a) (nI (t + n)) Z K = K (Z.2.1 a (t + n)) := fun Z n hZ hn K => mX_e hZ.1 hk (by decide) (by omega)
    have qa : ∀ (Z : mS) (j w : Nat) (x : Int32), (mPut Z 83 w x).2.1 a j = Z.2.1 a j := fun Z j w x => by rw [mPut_r _ _ _ _ _ (by omega)]
    have a11 : nI t + 11 = nI (t + 11) := nI_add t 11
    have a12 : nI t + 12 = nI (t + 12) := nI_add t 12
    have a13 : nI t + 13 = nI (t + 13) := nI_add t 13
    have a14 : nI t + 14 = nI (t + 14) := nI_add t 14
    have a15 : nI t + 15 = nI (t + 15) := nI_add t 15
    have a16 : nI t + 16 = nI (t + 16) := nI_add t 16
    have a17 : nI t + 17 = nI (t + 17) := nI_add t 17
    have L1 : Ly (mPut A 83 1 (nI k.h.w)) := Ly_put l2 (by decide)
    have L2 : Ly (mPut (mPut A 83 1 (nI k.h.w)) 83 2 (nI k.h.f)) := Ly_put L1 (by decide)
    have L3 : Ly (mPut (mPut (mPut A 83 1 (nI k.h.w)) 83 2 (nI k.h.f)) 83 3 (nI k.fold)) := Ly_put L2 (by decide)
    have L4 : Ly (mPut (mPut (mPut (mPut A 83 1 (nI k.h.w)) 83 2 (nI k.h.f)) 83 3 (nI k.fold)) 83 5 (nI k.seen.1)) := Ly_put L3 (by decide)
    have L5 : Ly (mPut (mPut (mPut (mPut (mPut A 83 1 (nI k.h.w)) 83 2 (nI k.h.f)) 83 3 (nI k.fold)) 83 5 (nI k.seen.1)) 83 6 (nI k.notes.1)) := Ly_put L4 (by decide)
    have L6 : Ly (mPut (mPut (mPut (mPut (mPut (mPut A 83 1 (nI k.h.w)) 83 2 (nI k.h.f)) 83 3 (nI k.fold)) 83 5 (nI k.seen.1)) 83 6 (nI k.notes.1)) 83 7 (nI k.marks.1)) := Ly_put L5 (by decide)
    simp (maxDischargeDepth := 40) only [f_X7_takeAll, hL, gc_0, gc_1, gc_2, gc_3, gc_4, gc_5, Ly_put, kcf, kca, l1, l2, Aa, qa, r1, a11, x _ 11 l2 (by decide), L1, r2, a12, x _ 12 L1 (by decide), L2, m1, a13, x _ 13 L2 (by decide), L3, m3.1, a14, x _ 14 L3 (by decide), L4, m4.1, a15, x _ 15 L4 (by decide), L5, m5.1, a16, x _ 16 L5 (by decide), L6, m6.1, a17, x _ 17 L6 (by decide), mCp_e, mC_e, mCv_e, mZ_0, mZ_1, mZ_ifb, if_true, if_false, n10, eq_self, reduceCtorEq, Bool.false_eq_true, Nat.add_zero, Nat.reduceAdd]
    rw [← hT]
    refine b1.trans ?_
    unfold f_X7_takeAll_103
    refine c1.trans ?_
    unfold f_X7_takeAll_131
    refine d1.trans ?_
    unfold f_X7_takeAll_159
    refine e1.trans ?_
    unfold f_X7_takeAll_201
    exact g1
  · rw [F83, t83]
    exact l4.trans r3
  · rw [g3.2.1 85 (by omega), e3.2.1 85 (by omega), d3.2.1 85 (by omega), c3.2.1 85 (by omega), b4 i (by omega), Ta]
    exact (r4 i hi).1
  · rw [frF 86 (by decide) (by decide) (by decide) (by decide) (by decide) (by decide), rT 86 (by decide), l5 i (by omega)]
    exact (r4 i hi).2
  · rw [g3.2.1 87 (by omega), e3.2.1 87 (by omega), d3.2.1 87 (by omega), c4 i (by omega), Ba]
    exact (r5 i hi).1
  · rw [frF 88 (by decide) (by decide) (by decide) (by decide) (by decide) (by decide), rT 88 (by decide), l6 i (by omega)]
    exact (r5 i hi).2
  · have n5 := v.2.2.2.1.1
    rw [Nat.zero_add, g3.2.1 89 (by omega), e3.2.1 89 (by omega), d4 (2 * r + c) (by omega), Ca]
    exact m3.2 r hr c hc
  · have n5 := v.2.2.2.2.1.1
    rw [Nat.zero_add, g3.2.1 90 (by omega), e4 (3 * r + c) (by omega), Da]
    exact m4.2 r hr c hc
  · have n5 := v.2.2.2.2.2.1.1
    rw [Nat.zero_add, g3.2.1 91 (by omega), e5 (3 * r + c) (by omega), Da]
    exact m5.2 r hr c hc
  · have n8 := v.2.2.2.2.2.2.1
    rw [Nat.zero_add, g4 (11 * r) (by omega), Ea]
    exact (m6.2 r hr).1
  · have n8 := v.2.2.2.2.2.2.1
    rw [Nat.zero_add, g4 (11 * r + 1 + i) (by omega), Ea, show t + 74 + (11 * r + 1 + i) = t + 74 + 11 * r + 1 + i by omega]
    exact (m6.2 r hr).2.1 i hi
  · have n8 := v.2.2.2.2.2.2.1
    rw [Nat.zero_add, g4 (11 * r + 4 + i) (by omega), Ea, show t + 74 + (11 * r + 4 + i) = t + 74 + 11 * r + 4 + i by omega]
    exact (m6.2 r hr).2.2 i hi
  · rw [frF q (by omega) (by omega) (by omega) (by omega) (by omega) (by omega), rT q (by omega), l3.2.1 q (by omega) (by omega) (by omega)]
  · rw [F83, t83, if_neg h2, if_neg (by omega), if_neg (by omega), if_neg (by omega), if_neg (by omega), if_neg (by omega), if_neg (by omega), l3.2.2.1 j (by omega)]
  · rw [g3.2.2, e3.2.2, d3.2.2, c3.2.2, b3.2.2, hT]
    exact l3.2.2.2
