/-! writes of one number -/
def setF (k : KS) (c : Nat) : KS := (k.h, c, k.seen, k.notes, k.marks, k.past)
def setP (k : KS) (p : RW) : KS := (k.h, k.fold, k.seen, k.notes, k.marks, p)
def rw0 : RW := (0, fun _ _ => 0)
def kNew (c : Nat) : KS := ((0, 0, 0, fun _ => 0, fun _ => 0, fun _ => 0, fun _ => 0), c, rw0, rw0, rw0, rw0)
theorem VP_0 (w f : Nat) : VP w f rw0 := ⟨by decide, fun k hk => absurd hk (Nat.not_lt_zero k)⟩
theorem VK_new {c : Nat} (h : c < 25) : VK (kNew c) := ⟨⟨by show 0 ≤ 3; decide, by show 0 ≤ 7; decide, by show 0 ≤ 20000; decide, fun i hi => absurd hi (Nat.not_lt_zero i), fun i hi => absurd hi (Nat.not_lt_zero i)⟩, by show 0 ≤ 9999; decide, h, ⟨by show 0 ≤ 5; decide, fun i hi => absurd hi (Nat.not_lt_zero i)⟩, ⟨by show 0 ≤ 6; decide, fun i hi => absurd hi (Nat.not_lt_zero i)⟩, ⟨by show 0 ≤ 6; decide, fun i hi => absurd hi (Nat.not_lt_zero i)⟩, VP_0 _ _⟩
theorem RR_0 {S : mS} {q j a b s w : Nat} (h : S.2.1 q j = nI 0) : RR S q j a b s w rw0 := ⟨h, fun r hr => absurd hr (Nat.not_lt_zero r)⟩
theorem RP_0 {S : mS} {q j a b w f : Nat} (h : S.2.1 q j = nI 0) : RP S q j a b w f rw0 := ⟨h, fun r hr => absurd hr (Nat.not_lt_zero r)⟩
theorem CK_new {S : mS} {o c : Nat} (h0 : S.2.1 o 5 = nI c) (h1 : S.2.1 (o + 1) 4 = nI 0) (h2 : S.2.1 (o + 1) 5 = nI 0) (h3 : S.2.1 (o + 1) 6 = nI 0) (h4 : S.2.1 (o + 6) 3 = nI 0) (h5 : S.2.1 (o + 8) 3 = nI 0) (h6 : S.2.1 (o + 10) 3 = nI 0) (h7 : S.2.1 (o + 12) 1 = nI 0) : CK S o (kNew c) :=
  ⟨h0, ⟨h1, h2, h3, fun i hi => absurd hi (Nat.not_lt_zero i), fun i hi => absurd hi (Nat.not_lt_zero i)⟩, RR_0 h4, RR_0 h5, RR_0 h6, RP_0 h7⟩
theorem MK_new {S : mS} {c : Nat} (h0 : S.2.1 83 3 = nI c) (h1 : S.2.1 83 1 = nI 0) (h2 : S.2.1 83 2 = nI 0) (h3 : S.2.1 83 4 = nI 0) (h4 : S.2.1 83 5 = nI 0) (h5 : S.2.1 83 6 = nI 0) (h6 : S.2.1 83 7 = nI 0) (h7 : S.2.1 83 21 = nI 0) : MK S (kNew c) :=
  ⟨h0, ⟨h1, h2, h3, fun i hi => absurd hi (Nat.not_lt_zero i), fun i hi => absurd hi (Nat.not_lt_zero i)⟩, RR_0 h4, RR_0 h5, RR_0 h6, RP_0 h7⟩
theorem x_begin {S : mS} {o c : Nat} (ho : o = 1 ∨ o = 15) (hL : Ly S) : ∃ S1, f_X5_begin (nI o) (nI c) S = some S1 ∧ Ly S1 ∧ CK S1 o (kNew c) ∧ Fr o (o + 14) S S1 := by
  rcases ho with rfl | rfl
  · refine ⟨mPut (mPut (mPut (mPut (mPut (mPut (mPut (mPut S 2 4 0) 2 5 0) 2 6 0) 7 3 0) 9 3 0) 11 3 0) 13 1 0) 1 5 (nI c), ?_, ?_, ?_, ?_⟩
    · simp (maxDischargeDepth := 40) only [f_X5_begin, f_X1_empty, hL, gc_0, gc_1, gc_2, gc_3, gc_4, gc_5, Ly_put, kcf, kca, mCp_e, mC_e, mCv_e, mZ_0, mZ_1, mZ_ifb, if_true, if_false, n10, eq_self, reduceCtorEq, Bool.false_eq_true, Nat.add_zero, Nat.reduceAdd]
    · simp (maxDischargeDepth := 40) only [hL, Ly_put, kcf]
    · apply CK_new <;> first | exact rfl | (simp (maxDischargeDepth := 40) only [mPut_g, Nat.reduceEqDiff, and_true, true_and, and_false, false_and, and_self, mCp_e, mC_e, mCv_e, mZ_0, mZ_1, mZ_ifb, if_true, if_false, n10, eq_self, reduceCtorEq, Bool.false_eq_true, Nat.add_zero, Nat.reduceAdd]; done) | (simp (maxDischargeDepth := 40) only [mPut_g, Nat.reduceEqDiff, and_true, true_and, and_false, false_and, and_self, mCp_e, mC_e, mCv_e, mZ_0, mZ_1, mZ_ifb, if_true, if_false, n10, eq_self, reduceCtorEq, Bool.false_eq_true, Nat.add_zero, Nat.reduceAdd]; rfl)
    · exact Fr_tr (Fr_tr (Fr_tr (Fr_tr (Fr_tr (Fr_tr (Fr_tr (Fr_put (by decide) (by decide)) (Fr_put (by decide) (by decide))) (Fr_put (by decide) (by decide))) (Fr_put (by decide) (by decide))) (Fr_put (by decide) (by decide))) (Fr_put (by decide) (by decide))) (Fr_put (by decide) (by decide))) (Fr_put (by decide) (by decide))
  · refine ⟨mPut (mPut (mPut (mPut (mPut (mPut (mPut (mPut S 16 4 0) 16 5 0) 16 6 0) 21 3 0) 23 3 0) 25 3 0) 27 1 0) 15 5 (nI c), ?_, ?_, ?_, ?_⟩
    · simp (maxDischargeDepth := 40) only [f_X5_begin, f_X1_empty, hL, gc_0, gc_1, gc_2, gc_3, gc_4, gc_5, Ly_put, kcf, kca, mCp_e, mC_e, mCv_e, mZ_0, mZ_1, mZ_ifb, if_true, if_false, n10, eq_self, reduceCtorEq, Bool.false_eq_true, Nat.add_zero, Nat.reduceAdd]
    · simp (maxDischargeDepth := 40) only [hL, Ly_put, kcf]
    · apply CK_new <;> first | exact rfl | (simp (maxDischargeDepth := 40) only [mPut_g, Nat.reduceEqDiff, and_true, true_and, and_false, false_and, and_self, mCp_e, mC_e, mCv_e, mZ_0, mZ_1, mZ_ifb, if_true, if_false, n10, eq_self, reduceCtorEq, Bool.false_eq_true, Nat.add_zero, Nat.reduceAdd]; done) | (simp (maxDischargeDepth := 40) only [mPut_g, Nat.reduceEqDiff, and_true, true_and, and_false, false_and, and_self, mCp_e, mC_e, mCv_e, mZ_0, mZ_1, mZ_ifb, if_true, if_false, n10, eq_self, reduceCtorEq, Bool.false_eq_true, Nat.add_zero, Nat.reduceAdd]; rfl)
    · exact Fr_tr (Fr_tr (Fr_tr (Fr_tr (Fr_tr (Fr_tr (Fr_tr (Fr_put (by decide) (by decide)) (Fr_put (by decide) (by decide))) (Fr_put (by decide) (by decide))) (Fr_put (by decide) (by decide))) (Fr_put (by decide) (by decide))) (Fr_put (by decide) (by decide))) (Fr_put (by decide) (by decide))) (Fr_put (by decide) (by decide))
/-- the reference's eight numbers of an object alone may differ -/
def F8 (S S1 : mS) : Prop := S1.1 = S.1 ∧ (∀ k, k ≠ 83 → S1.2.1 k = S.2.1 k) ∧ (∀ j, ¬ (1 ≤ j ∧ j ≤ 7) → j ≠ 21 → S1.2.1 83 j = S.2.1 83 j) ∧ S1.2.2 = S.2.2
theorem F8_TM {S S1 : mS} (f : F8 S S1) : TM S S1 := ⟨f.1, fun k hk => f.2.1 k (by omega), f.2.2.1 16 (by decide) (by decide), fun j _ => by rw [f.2.2.2]⟩
theorem y_begin {S : mS} {c : Nat} (hL : Ly S) : ∃ S1, f_X7_begin (nI 83) (nI c) S = some S1 ∧ Ly S1 ∧ MK S1 (kNew c) ∧ F8 S S1 := by
  refine ⟨mPut (mPut (mPut (mPut (mPut (mPut (mPut (mPut S 83 1 0) 83 2 0) 83 3 (nI c)) 83 4 0) 83 5 0) 83 6 0) 83 7 0) 83 21 0, ?_, ?_, ?_, ?_⟩
  · simp (maxDischargeDepth := 40) only [f_X7_begin, hL, gc_0, gc_1, gc_2, gc_3, gc_4, gc_5, Ly_put, kcf, kca, mCp_e, mC_e, mCv_e, mZ_0, mZ_1, mZ_ifb, if_true, if_false, n10, eq_self, reduceCtorEq, Bool.false_eq_true, Nat.add_zero, Nat.reduceAdd]
  · simp (maxDischargeDepth := 40) only [hL, Ly_put, kcf]
  · apply MK_new <;> first | exact rfl | (simp (maxDischargeDepth := 40) only [mPut_g, Nat.reduceEqDiff, and_true, true_and, and_false, false_and, and_self, mCp_e, mC_e, mCv_e, mZ_0, mZ_1, mZ_ifb, if_true, if_false, n10, eq_self, reduceCtorEq, Bool.false_eq_true, Nat.add_zero, Nat.reduceAdd]; done) | (simp (maxDischargeDepth := 40) only [mPut_g, Nat.reduceEqDiff, and_true, true_and, and_false, false_and, and_self, mCp_e, mC_e, mCv_e, mZ_0, mZ_1, mZ_ifb, if_true, if_false, n10, eq_self, reduceCtorEq, Bool.false_eq_true, Nat.add_zero, Nat.reduceAdd]; rfl)
  · refine ⟨rfl, fun q hq => ?_, fun j h1 h2 => ?_, rfl⟩
    · simp (maxDischargeDepth := 40) only [mPut_r _ _ _ _ _ hq]
    · have n1 : ¬ j = 1 := by omega
      have n2 : ¬ j = 2 := by omega
      have n3 : ¬ j = 3 := by omega
      have n4 : ¬ j = 4 := by omega
      have n5 : ¬ j = 5 := by omega
      have n6 : ¬ j = 6 := by omega
      have n7 : ¬ j = 7 := by omega
      simp (maxDischargeDepth := 40) only [mPut_g, n1, n2, n3, n4, n5, n6, n7, h2, and_false, if_false]
theorem o_fell {S : mS} (H : Inv S) (v1 : Int32) : Agr (f_X6_fell (nI 0) v1) (f_X7_fell (nI 83) v1) S := by
  obtain ⟨k, I⟩ := Inv_k H
  have hL := I.1
  have hv : VH k.h := I.2.1.1
  have hr : RH S 2 k.h := I.2.2.1.2.1
  have hm : MK S k := I.2.2.2.1
  have hq : RM S k.h := hm.2.1
  have ho : HO 2 := Or.inl rfl
  have hw := hv.1
  have hf := hv.2.1
  have w7 : k.h.w ≤ 7 := by omega
  cases c1 : dN 25 v1 with
  | false =>
    exact Agr_ref (v := -2) 0 (by decide) I (by simp (maxDischargeDepth := 40) only [f_X6_fell, hL, gc_0, gc_1, gc_2, gc_3, gc_4, gc_5, Ly_put, kcf, kca, x_hasW _ ho hL hr w7, x_hasS _ ho hL hr hf, x_cell, x_kind, x_iscall, x_isimage, i_in, c1, x_bad hL, mCp_e, mC_e, mCv_e, mZ_0, mZ_1, mZ_ifb, if_true, if_false, n10, eq_self, reduceCtorEq, Bool.false_eq_true, Nat.add_zero, Nat.reduceAdd]) (fun S1 hL1 hm1 => by simp (maxDischargeDepth := 40) only [f_X7_fell, hL1, gc_0, gc_1, gc_2, gc_3, gc_4, gc_5, Ly_put, kcf, kca, y_hasW _ hL1 hm1.2.1 w7, y_hasS _ hL1 hm1.2.1 hf, y_cell, y_iscall, i_in, c1, y_bad hL1, mCp_e, mC_e, mCv_e, mZ_0, mZ_1, mZ_ifb, if_true, if_false, n10, eq_self, reduceCtorEq, Bool.false_eq_true, Nat.add_zero, Nat.reduceAdd])
  | true =>
    obtain ⟨c, hc, rfl⟩ := dN_some c1 (by decide)
    obtain ⟨S1, e1, e2, e3, e4⟩ := x_begin (c := c) (Or.inl rfl) hL
    refine Agr_k I (VK_new hc) (r := nI k.h.f) ⟨S1, by simp (maxDischargeDepth := 40) only [f_X6_fell, hL, gc_0, gc_1, gc_2, gc_3, gc_4, gc_5, Ly_put, kcf, kca, x_hasW _ ho hL hr w7, x_hasS _ ho hL hr hf, x_cell, x_kind, x_iscall, x_isimage, i_in, c1, hr.2.1, e1, mCp_e, mC_e, mCv_e, mZ_0, mZ_1, mZ_ifb, if_true, if_false, n10, eq_self, reduceCtorEq, Bool.false_eq_true, Nat.add_zero, Nat.reduceAdd], e2, e3, TC_fr e4 (by omega)⟩ (fun S2 hL1 hm1 => ?_)
    obtain ⟨S3, m1, m2, m3, m4⟩ := y_begin (c := c) hL1
    exact ⟨S3, by simp (maxDischargeDepth := 40) only [f_X7_fell, hL1, gc_0, gc_1, gc_2, gc_3, gc_4, gc_5, Ly_put, kcf, kca, y_hasW _ hL1 hm1.2.1 w7, y_hasS _ hL1 hm1.2.1 hf, y_cell, y_iscall, i_in, c1, hm1.2.1.2.1, m1, mCp_e, mC_e, mCv_e, mZ_0, mZ_1, mZ_ifb, if_true, if_false, n10, eq_self, reduceCtorEq, Bool.false_eq_true, Nat.add_zero, Nat.reduceAdd], m2, m3, F8_TM m4⟩
/-- the fold elsewhere, nothing to take back -/
theorem o_fold {S : mS} (H : Inv S) (v1 : Int32) : Agr (f_X6_fold (nI 0) v1) (f_X7_fold (nI 83) v1) S := by
  obtain ⟨k, I⟩ := Inv_k H
  have hL := I.1
  have hv : VH k.h := I.2.1.1
  have hr : RH S 2 k.h := I.2.2.1.2.1
  have hm : MK S k := I.2.2.2.1
  have hq : RM S k.h := hm.2.1
  have ho : HO 2 := Or.inl rfl
  have hw := hv.1
  have hf := hv.2.1
  have w7 : k.h.w ≤ 7 := by omega
  have hF : k.fold < 25 := I.2.1.2.2.1
  have e1 : S.2.1 1 5 = nI k.fold := I.2.2.1.1
  cases c1 : dN 25 v1 with
  | false =>
    exact Agr_ref (v := -2) 0 (by decide) I (by simp (maxDischargeDepth := 40) only [f_X6_fold, hL, gc_0, gc_1, gc_2, gc_3, gc_4, gc_5, Ly_put, kcf, kca, x_hasW _ ho hL hr w7, x_hasS _ ho hL hr hf, x_cell, x_kind, x_iscall, x_isimage, i_in, c1, x_bad hL, mCp_e, mC_e, mCv_e, mZ_0, mZ_1, mZ_ifb, if_true, if_false, n10, eq_self, reduceCtorEq, Bool.false_eq_true, Nat.add_zero, Nat.reduceAdd]) (fun S1 hL1 hm1 => by simp (maxDischargeDepth := 40) only [f_X7_fold, hL1, gc_0, gc_1, gc_2, gc_3, gc_4, gc_5, Ly_put, kcf, kca, y_hasW _ hL1 hm1.2.1 w7, y_hasS _ hL1 hm1.2.1 hf, y_cell, y_iscall, i_in, c1, y_bad hL1, mCp_e, mC_e, mCv_e, mZ_0, mZ_1, mZ_ifb, if_true, if_false, n10, eq_self, reduceCtorEq, Bool.false_eq_true, Nat.add_zero, Nat.reduceAdd])
  | true =>
    obtain ⟨c, hc, rfl⟩ := dN_some c1 (by decide)
    have q1 : (nI c = nI k.fold) = (c = k.fold) := eq_i (by omega) (by omega)
    have q2 : (nI k.fold = nI c) = (k.fold = c) := eq_i (by omega) (by omega)
    by_cases c2 : c = k.fold
    · subst c2
      exact Agr_ref (v := -3) 1 (by decide) I (by simp (maxDischargeDepth := 40) only [f_X6_fold, e1, hL, gc_0, gc_1, gc_2, gc_3, gc_4, gc_5, Ly_put, kcf, kca, x_hasW _ ho hL hr w7, x_hasS _ ho hL hr hf, x_cell, x_kind, x_iscall, x_isimage, i_in, c1, x_no hL, mCp_e, mC_e, mCv_e, mZ_0, mZ_1, mZ_ifb, if_true, if_false, n10, eq_self, reduceCtorEq, Bool.false_eq_true, Nat.add_zero, Nat.reduceAdd]) (fun S1 hL1 hm1 => by simp (maxDischargeDepth := 40) only [f_X7_fold, hm1.1, hL1, gc_0, gc_1, gc_2, gc_3, gc_4, gc_5, Ly_put, kcf, kca, y_hasW _ hL1 hm1.2.1 w7, y_hasS _ hL1 hm1.2.1 hf, y_cell, y_iscall, i_in, c1, y_no hL1, mCp_e, mC_e, mCv_e, mZ_0, mZ_1, mZ_ifb, if_true, if_false, n10, eq_self, reduceCtorEq, Bool.false_eq_true, Nat.add_zero, Nat.reduceAdd])
    · have c3 : ¬ k.fold = c := fun z => c2 z.symm
      refine Agr_k I (k' := setP (setF k c) rw0) (r := nI k.fold) ⟨I.2.1.1, I.2.1.2.1, hc, I.2.1.2.2.2.1, I.2.1.2.2.2.2.1, I.2.1.2.2.2.2.2.1, VP_0 _ _⟩ ⟨mPut (mPut S 1 5 (nI c)) 13 1 0, by simp (maxDischargeDepth := 40) only [f_X6_fold, hL, gc_0, gc_1, gc_2, gc_3, gc_4, gc_5, Ly_put, kcf, kca, x_hasW _ ho hL hr w7, x_hasS _ ho hL hr hf, x_cell, x_kind, x_iscall, x_isimage, i_in, c1, c2, q1, e1, mCp_e, mC_e, mCv_e, mZ_0, mZ_1, mZ_ifb, if_true, if_false, n10, eq_self, reduceCtorEq, Bool.false_eq_true, Nat.add_zero, Nat.reduceAdd], by simp (maxDischargeDepth := 40) only [hL, Ly_put, kcf], ?_, TC_tr (TC_put (by omega)) (TC_put (by omega))⟩ (fun S1 hL1 hm1 => ⟨mPut (mPut S1 83 3 (nI c)) 83 21 0, by simp (maxDischargeDepth := 40) only [f_X7_fold, hL1, gc_0, gc_1, gc_2, gc_3, gc_4, gc_5, Ly_put, kcf, kca, y_hasW _ hL1 hm1.2.1 w7, y_hasS _ hL1 hm1.2.1 hf, y_cell, y_iscall, i_in, c1, c3, q2, hm1.1, mCp_e, mC_e, mCv_e, mZ_0, mZ_1, mZ_ifb, if_true, if_false, n10, eq_self, reduceCtorEq, Bool.false_eq_true, Nat.add_zero, Nat.reduceAdd], by simp (maxDischargeDepth := 40) only [hL1, Ly_put, kcf], ?_, TM_tr (TM_put (by omega)) (TM_put (by omega))⟩)
      · obtain ⟨d1, d2, d3, d4, d5, d6⟩ := I.2.2.1
        exact ⟨by simp (maxDischargeDepth := 40) only [mPut_g, Nat.reduceEqDiff, and_true, true_and, and_false, false_and, and_self, mCp_e, mC_e, mCv_e, mZ_0, mZ_1, mZ_ifb, if_true, if_false, n10, eq_self, reduceCtorEq, Bool.false_eq_true, Nat.add_zero, Nat.reduceAdd]; rfl, RH_sa (fun q a b => by rw [mPut_r _ _ _ _ _ (by omega), mPut_r _ _ _ _ _ (by omega)]) d2, RR_f (by simp (maxDischargeDepth := 40) only [mPut_g, Nat.reduceEqDiff, and_true, true_and, and_false, false_and, and_self, mCp_e, mC_e, mCv_e, mZ_0, mZ_1, mZ_ifb, if_true, if_false, n10, eq_self, reduceCtorEq, Bool.false_eq_true, Nat.add_zero, Nat.reduceAdd]) (by simp (maxDischargeDepth := 40) only [mPut_r, ne_eq, not_false_eq_true, mPut_g, Nat.reduceEqDiff, and_true, true_and, and_false, false_and, and_self]) d3, RR_f (by simp (maxDischargeDepth := 40) only [mPut_g, Nat.reduceEqDiff, and_true, true_and, and_false, false_and, and_self, mCp_e, mC_e, mCv_e, mZ_0, mZ_1, mZ_ifb, if_true, if_false, n10, eq_self, reduceCtorEq, Bool.false_eq_true, Nat.add_zero, Nat.reduceAdd]) (by simp (maxDischargeDepth := 40) only [mPut_r, ne_eq, not_false_eq_true, mPut_g, Nat.reduceEqDiff, and_true, true_and, and_false, false_and, and_self]) d4, RR_f (by simp (maxDischargeDepth := 40) only [mPut_g, Nat.reduceEqDiff, and_true, true_and, and_false, false_and, and_self, mCp_e, mC_e, mCv_e, mZ_0, mZ_1, mZ_ifb, if_true, if_false, n10, eq_self, reduceCtorEq, Bool.false_eq_true, Nat.add_zero, Nat.reduceAdd]) (by simp (maxDischargeDepth := 40) only [mPut_r, ne_eq, not_false_eq_true, mPut_g, Nat.reduceEqDiff, and_true, true_and, and_false, false_and, and_self]) d5, RP_0 (by simp (maxDischargeDepth := 40) only [mPut_g, Nat.reduceEqDiff, and_true, true_and, and_false, false_and, and_self, mCp_e, mC_e, mCv_e, mZ_0, mZ_1, mZ_ifb, if_true, if_false, n10, eq_self, reduceCtorEq, Bool.false_eq_true, Nat.add_zero, Nat.reduceAdd]; rfl)⟩
      · obtain ⟨d1, d2, d3, d4, d5, d6⟩ := hm1
        obtain ⟨a1, a2, a3, a4, a5⟩ := d2
        exact ⟨by simp (maxDischargeDepth := 40) only [mPut_g, Nat.reduceEqDiff, and_true, true_and, and_false, false_and, and_self, mCp_e, mC_e, mCv_e, mZ_0, mZ_1, mZ_ifb, if_true, if_false, n10, eq_self, reduceCtorEq, Bool.false_eq_true, Nat.add_zero, Nat.reduceAdd]; rfl, ⟨by simp (maxDischargeDepth := 40) only [mPut_g, Nat.reduceEqDiff, and_true, true_and, and_false, false_and, and_self, mCp_e, mC_e, mCv_e, mZ_0, mZ_1, mZ_ifb, if_true, if_false, n10, eq_self, reduceCtorEq, Bool.false_eq_true, Nat.add_zero, Nat.reduceAdd]; exact a1, by simp (maxDischargeDepth := 40) only [mPut_g, Nat.reduceEqDiff, and_true, true_and, and_false, false_and, and_self, mCp_e, mC_e, mCv_e, mZ_0, mZ_1, mZ_ifb, if_true, if_false, n10, eq_self, reduceCtorEq, Bool.false_eq_true, Nat.add_zero, Nat.reduceAdd]; exact a2, by simp (maxDischargeDepth := 40) only [mPut_g, Nat.reduceEqDiff, and_true, true_and, and_false, false_and, and_self, mCp_e, mC_e, mCv_e, mZ_0, mZ_1, mZ_ifb, if_true, if_false, n10, eq_self, reduceCtorEq, Bool.false_eq_true, Nat.add_zero, Nat.reduceAdd]; exact a3, fun i hi => by simp (maxDischargeDepth := 40) only [mPut_r, ne_eq, not_false_eq_true, mPut_g, Nat.reduceEqDiff, and_true, true_and, and_false, false_and, and_self]; exact a4 i hi, fun i hi => by simp (maxDischargeDepth := 40) only [mPut_r, ne_eq, not_false_eq_true, mPut_g, Nat.reduceEqDiff, and_true, true_and, and_false, false_and, and_self]; exact a5 i hi⟩, RR_f (by simp (maxDischargeDepth := 40) only [mPut_g, Nat.reduceEqDiff, and_true, true_and, and_false, false_and, and_self, mCp_e, mC_e, mCv_e, mZ_0, mZ_1, mZ_ifb, if_true, if_false, n10, eq_self, reduceCtorEq, Bool.false_eq_true, Nat.add_zero, Nat.reduceAdd]) (by simp (maxDischargeDepth := 40) only [mPut_r, ne_eq, not_false_eq_true, mPut_g, Nat.reduceEqDiff, and_true, true_and, and_false, false_and, and_self]) d3, RR_f (by simp (maxDischargeDepth := 40) only [mPut_g, Nat.reduceEqDiff, and_true, true_and, and_false, false_and, and_self, mCp_e, mC_e, mCv_e, mZ_0, mZ_1, mZ_ifb, if_true, if_false, n10, eq_self, reduceCtorEq, Bool.false_eq_true, Nat.add_zero, Nat.reduceAdd]) (by simp (maxDischargeDepth := 40) only [mPut_r, ne_eq, not_false_eq_true, mPut_g, Nat.reduceEqDiff, and_true, true_and, and_false, false_and, and_self]) d4, RR_f (by simp (maxDischargeDepth := 40) only [mPut_g, Nat.reduceEqDiff, and_true, true_and, and_false, false_and, and_self, mCp_e, mC_e, mCv_e, mZ_0, mZ_1, mZ_ifb, if_true, if_false, n10, eq_self, reduceCtorEq, Bool.false_eq_true, Nat.add_zero, Nat.reduceAdd]) (by simp (maxDischargeDepth := 40) only [mPut_r, ne_eq, not_false_eq_true, mPut_g, Nat.reduceEqDiff, and_true, true_and, and_false, false_and, and_self]) d5, RP_0 (by simp (maxDischargeDepth := 40) only [mPut_g, Nat.reduceEqDiff, and_true, true_and, and_false, false_and, and_self, mCp_e, mC_e, mCv_e, mZ_0, mZ_1, mZ_ifb, if_true, if_false, n10, eq_self, reduceCtorEq, Bool.false_eq_true, Nat.add_zero, Nat.reduceAdd]; rfl)⟩
