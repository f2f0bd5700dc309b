theorem y_layAll {S : mS} {k : KS} {a t : Nat} (hL : Ly S) (v : VK k) (mk : MK S k) (hk : mKd a = 8) (ha : a = 93 ∨ a = 98) (hl : t + 170 ≤ mLn a) : ∃ S1, f_X7_layAll (nI 83) (nI a) (nI t) S = some S1 ∧ Ly S1 ∧ Fr a (a + 1) S S1 ∧ MI S1 a t k ∧ ∀ j, j < t ∨ t + 162 ≤ j → S1.2.1 a j = S.2.1 a j := by
  have hl2 := mLn_lt a
  have hw := v.1.1
  have hf := v.1.2.1
  obtain ⟨m1, ⟨r1, r2, r3, r4, r5⟩, m3, m4, m5, m6⟩ := mk
  obtain ⟨A, l1, l2, l3, l4, l5, l6, l7⟩ := y_lays (a := a) (at_ := t) hL hk (by omega) (by omega)
  have A83 : A.2.1 83 = S.2.1 83 := l3.2.1 83 (by omega)
  obtain ⟨T, hT⟩ : ∃ T, T = mPut (mPut (mPut (mPut (mPut (mPut (mPut A a (t + 11) (nI k.h.w)) a (t + 12) (nI k.h.f)) a (t + 13) (nI k.fold)) a (t + 14) (nI k.seen.1)) a (t + 15) (nI k.notes.1)) a (t + 16) (nI k.marks.1)) a (t + 17) (nI k.past.1) := ⟨_, rfl⟩
  have ca := fun j => cst_arr (k := a) (j := j) (Or.inl hk)
  have hLT : Ly T := by rw [hT]; exact Ly_put (Ly_put (Ly_put (Ly_put (Ly_put (Ly_put (Ly_put l2 (ca _)) (ca _)) (ca _)) (ca _)) (ca _)) (ca _)) (ca _)
  have fT_ : Fr a (a + 1) S T := by rw [hT]; exact Fr_tr (Fr_tr (Fr_tr (Fr_tr (Fr_tr (Fr_tr (Fr_tr l3 (Fr_put (by omega) (by omega))) (Fr_put (by omega) (by omega))) (Fr_put (by omega) (by omega))) (Fr_put (by omega) (by omega))) (Fr_put (by omega) (by omega))) (Fr_put (by omega) (by omega))) (Fr_put (by omega) (by omega))
  have tv : ∀ j, T.2.1 a j = if j = t + 17 then nI k.past.1 else if j = t + 16 then nI k.marks.1 else if j = t + 15 then nI k.notes.1 else if j = t + 14 then nI k.seen.1 else if j = t + 13 then nI k.fold else if j = t + 12 then nI k.h.f else if j = t + 11 then nI k.h.w else A.2.1 a j := fun j => by
    rw [hT, mPut_g, mPut_g, mPut_g, mPut_g, mPut_g, mPut_g, mPut_g]
    simp (maxDischargeDepth := 40) only [true_and]
  obtain ⟨B, b1, b2, b3, b4, b5⟩ := y_la78 (K := f_X7_layAll_103) hLT hk ha hl
  obtain ⟨C, c1, c2, c3, c4, c5⟩ := y_la105 (K := f_X7_layAll_131) b2 hk ha hl
  obtain ⟨D, d1, d2, d3, d4, d5⟩ := y_la133 (K := f_X7_layAll_159) c2 hk ha hl
  obtain ⟨E, e1, e2, e3, e4, e5, e6⟩ := y_la161 (K := f_X7_layAll_201) d2 hk ha hl
  obtain ⟨F, g1, g2, g3, g4, g5⟩ := y_la203 (K := f_X7_layAll_229) e2 hk ha hl
  have fB : Fr a (a + 1) S B := Fr_tr fT_ b3
  have fC : Fr a (a + 1) S C := Fr_tr fB c3
  have fD : Fr a (a + 1) S D := Fr_tr fC d3
  have fE : Fr a (a + 1) S E := Fr_tr fD e3
  have fF : Fr a (a + 1) S F := Fr_tr fE g3
  have low : ∀ j, j < t + 18 → F.2.1 a j = T.2.1 a j := fun j hj => by rw [g5 j (by omega), e6 j (by omega), d5 j (by omega), c5 j (by omega), b5 j (by omega)]
  refine ⟨F, ?_, g2, fF, ⟨?_, ⟨?_, ?_, ?_, fun i hi => ⟨?_, ?_⟩, fun i hi => ⟨?_, ?_⟩⟩, ⟨?_, fun r hr c hc => ?_⟩, ⟨?_, fun r hr c hc => ?_⟩, ⟨?_, fun r hr c hc => ?_⟩, ⟨?_, fun r hr => ⟨?_, fun i hi => ?_, fun i hi => ?_⟩⟩⟩, fun j hj => ?_⟩
  · have x : ∀ (Z : mS) (n : Nat) (w : Int32), Ly Z → n ≤ 17 → ∀ K : mS → Option mS, mXs (nI a) (nI (t + n)) w Z K = K (mPut Z a (t + n) w) := fun Z n w hZ hn K => mXs_e hZ.1 hk (by omega)
    have p : ∀ n : Nat, n ≤ 17 → nI t + nI n = nI (t + n) := fun n _ => nI_add t n
    have q83 : ∀ (Z : mS) (j w : Nat) (x : Int32), (mPut Z a w x).2.1 83 j = Z.2.1 83 j := fun Z j w x => by rw [mPut_r _ _ _ _ _ (by omega)]
    have a11 : nI t + 11 = nI (t + 11) := nI_add t 11
    have a12 : nI t + 12 = nI (t + 12) := nI_add t 12
    have a13 : nI t + 13 = nI (t + 13) := nI_add t 13
    have a14 : nI t + 14 = nI (t + 14) := nI_add t 14
    have a15 : nI t + 15 = nI (t + 15) := nI_add t 15
    have a16 : nI t + 16 = nI (t + 16) := nI_add t 16
    have a17 : nI t + 17 = nI (t + 17) := nI_add t 17
    have L1 := Ly_put (v := nI k.h.w) l2 (ca (t + 11))
    have L2 := Ly_put (v := nI k.h.f) L1 (ca (t + 12))
    have L3 := Ly_put (v := nI k.fold) L2 (ca (t + 13))
    have L4 := Ly_put (v := nI k.seen.1) L3 (ca (t + 14))
    have L5 := Ly_put (v := nI k.notes.1) L4 (ca (t + 15))
    have L6 := Ly_put (v := nI k.marks.1) L5 (ca (t + 16))
    simp (maxDischargeDepth := 40) only [f_X7_layAll, hL, gc_0, gc_1, gc_2, gc_3, gc_4, gc_5, Ly_put, kcf, kca, l1, l2, A83, r1, a11, x _ 11 _ l2 (by decide), L1, q83, r2, a12, x _ 12 _ L1 (by decide), L2, m1, a13, x _ 13 _ L2 (by decide), L3, m3.1, a14, x _ 14 _ L3 (by decide), L4, m4.1, a15, x _ 15 _ L4 (by decide), L5, m5.1, a16, x _ 16 _ L5 (by decide), L6, m6.1, a17, x _ 17 _ L6 (by decide), mCp_e, mC_e, mCv_e, mZ_0, mZ_1, mZ_ifb, if_true, if_false, n10, eq_self, reduceCtorEq, Bool.false_eq_true, Nat.add_zero, Nat.reduceAdd]
    rw [← hT]
    refine b1.trans ?_
    unfold f_X7_layAll_103
    refine c1.trans ?_
    unfold f_X7_layAll_131
    refine d1.trans ?_
    unfold f_X7_layAll_159
    refine e1.trans ?_
    unfold f_X7_layAll_201
    exact g1
  · rw [low _ (by omega), tv, if_neg (by omega), if_neg (by omega), if_neg (by omega), if_neg (by omega), if_pos rfl]
  · rw [low _ (by omega), tv, if_neg (by omega), if_neg (by omega), if_neg (by omega), if_neg (by omega), if_neg (by omega), if_neg (by omega), if_pos rfl]
  · rw [low _ (by omega), tv, if_neg (by omega), if_neg (by omega), if_neg (by omega), if_neg (by omega), if_neg (by omega), if_pos rfl]
  · rw [low _ (by omega), tv, if_neg (by omega), if_neg (by omega), if_neg (by omega), if_neg (by omega), if_neg (by omega), if_neg (by omega), if_neg (by omega), l4]
    exact r3
  · rw [g5 _ (by omega), e6 _ (by omega), d5 _ (by omega), c5 _ (by omega), b4 i (by omega), fT_.2.1 85 (by omega)]
    exact (r4 i hi).1
  · rw [low _ (by omega), tv, if_neg (by omega), if_neg (by omega), if_neg (by omega), if_neg (by omega), if_neg (by omega), if_neg (by omega), if_neg (by omega), l5 i (by omega)]
    exact (r4 i hi).2
  · rw [g5 _ (by omega), e6 _ (by omega), d5 _ (by omega), c4 i (by omega), fB.2.1 87 (by omega)]
    exact (r5 i hi).1
  · rw [low _ (by omega), tv, if_neg (by omega), if_neg (by omega), if_neg (by omega), if_neg (by omega), if_neg (by omega), if_neg (by omega), if_neg (by omega), l6 i (by omega)]
    exact (r5 i hi).2
  · rw [low _ (by omega), tv, if_neg (by omega), if_neg (by omega), if_neg (by omega), if_pos rfl]
  · have n5 := v.2.2.2.1.1
    rw [g5 _ (by omega), e6 _ (by omega), d4 (2 * r + c) (by omega), fC.2.1 89 (by omega)]
    have := m3.2 r hr c hc
    rwa [Nat.zero_add] at this
  · rw [low _ (by omega), tv, if_neg (by omega), if_neg (by omega), if_pos rfl]
  · have n5 := v.2.2.2.2.1.1
    rw [g5 _ (by omega), e4 (3 * r + c) (by omega), fD.2.1 90 (by omega)]
    have := m4.2 r hr c hc
    rwa [Nat.zero_add] at this
  · rw [low _ (by omega), tv, if_neg (by omega), if_pos rfl]
  · have n5 := v.2.2.2.2.2.1.1
    rw [g5 _ (by omega), e5 (3 * r + c) (by omega), fD.2.1 91 (by omega)]
    have := m5.2 r hr c hc
    rwa [Nat.zero_add] at this
  · rw [low _ (by omega), tv, if_pos rfl]
  · have n8 := v.2.2.2.2.2.2.1
    rw [g4 (11 * r) (by omega), fE.2.1 94 (by omega)]
    have := (m6.2 r hr).1
    rwa [Nat.zero_add] at this
  · have n8 := v.2.2.2.2.2.2.1
    rw [show t + 74 + 11 * r + 1 + i = t + 74 + (11 * r + 1 + i) by omega, g4 (11 * r + 1 + i) (by omega), fE.2.1 94 (by omega)]
    have := (m6.2 r hr).2.1 i hi
    rwa [Nat.zero_add] at this
  · have n8 := v.2.2.2.2.2.2.1
    rw [show t + 74 + 11 * r + 4 + i = t + 74 + (11 * r + 4 + i) by omega, g4 (11 * r + 4 + i) (by omega), fE.2.1 94 (by omega)]
    have := (m6.2 r hr).2.2 i hi
    rwa [Nat.zero_add] at this
  · rw [g5 j (by omega), e6 j (by omega), d5 j (by omega), c5 j (by omega), b5 j (by omega), tv, if_neg (by omega), if_neg (by omega), if_neg (by omega), if_neg (by omega), if_neg (by omega), if_neg (by omega), if_neg (by omega), l7 j (by omega)]
