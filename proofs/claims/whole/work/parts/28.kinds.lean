/-! which kind it is -/
theorem x_kR {kd t : Nat} (hk : kd < 6) (ht : t ≤ 20000) : f_X6_kindReach 0 (nI kd) (nI t) = some (nI (pR kd t)) := by
  simp (maxDischargeDepth := 40) only [f_X6_kindReach, f_X6_kindReach_17, (x_reach hk ht).1, mCp_e, mC_e, mCv_e, mZ_0, mZ_1, mZ_ifb, if_true, if_false, n10, eq_self, reduceCtorEq, Bool.false_eq_true, Nat.add_zero, Nat.reduceAdd]
theorem x_kS {kd t : Nat} (hk : kd < 6) (ht : t < 9) : f_X6_kindReach 1 (nI kd) (nI t) = some (nI (pS kd t)) := by
  simp (maxDischargeDepth := 40) only [f_X6_kindReach, f_X6_kindReach_17, (x_sreach kd hk t ht).1, mCp_e, mC_e, mCv_e, mZ_0, mZ_1, mZ_ifb, if_true, if_false, n10, eq_self, reduceCtorEq, Bool.false_eq_true, Nat.add_zero, Nat.reduceAdd]
def fKW (k : KS) (who kd r : Nat) : Bool := decide (k.notes.2 r 0 = who → pR kd (k.notes.2 r 1) = k.notes.2 r 2)
def sKW (k : KS) (who kd : Nat) : Bool := al (fKW k who kd) k.notes.1
theorem x_fitKW {S : mS} {k : KS} {who kd : Nat} (hL : Ly S) (v : VK k) (ck : CK S 1 k) (hw : who < 7) (hk : kd < 6) : f_X6_fitsRows (nI 9) (nI who) 0 (nI kd) S = some (if sKW k who kd = true then 1 else 0) := by
  have h5 : S.2.1 9 3 = nI k.notes.1 := ck.2.2.2.1.1
  have n5 := v.2.2.2.2.1.1
  have e := lupE (fun n j => f_X6_fitsRows_3 (f_X6_fitsRows_65 S) S n (nI 9) (nI who) 0 (nI kd) (nI j)) (fKW k who kd) k.notes.1 (some 1) (some 0) (fun n j hj => by
    have s := v.2.2.2.2.1.2 j hj
    have g0 : f_X3_get (nI 9) (nI j) 0 S = some (nI (k.notes.2 j 0)) := by
      rw [show (0 : Int32) = nI 0 from rfl, x_get9 hL h5 (by omega) hj (by decide)]
      exact congrArg some (by have := ck.2.2.2.1.2 j hj 0 (by decide); rwa [Nat.zero_add] at this)
    have g1 : f_X3_get (nI 9) (nI j) 1 S = some (nI (k.notes.2 j 1)) := by
      rw [show (1 : Int32) = nI 1 from rfl, x_get9 hL h5 (by omega) hj (by decide)]
      exact congrArg some (by have := ck.2.2.2.1.2 j hj 1 (by decide); rwa [Nat.zero_add] at this)
    have g2 : f_X3_get (nI 9) (nI j) 2 S = some (nI (k.notes.2 j 2)) := by
      rw [show (2 : Int32) = nI 2 from rfl, x_get9 hL h5 (by omega) hj (by decide)]
      exact congrArg some (by have := ck.2.2.2.1.2 j hj 2 (by decide); rwa [Nat.zero_add] at this)
    have le : (nI k.notes.1 ≤ nI j) = False := eq_false (nI_ge hj (by omega))
    have q1 : (nI (pR kd (k.notes.2 j 1)) = nI (k.notes.2 j 2)) = (pR kd (k.notes.2 j 1) = k.notes.2 j 2) := eq_i (by have := pR_lt kd (k.notes.2 j 1); omega) (by omega)
    have q2 : (nI (k.notes.2 j 0) = nI who) = (k.notes.2 j 0 = who) := eq_i (by omega) (by omega)
    show f_X6_fitsRows_3 (f_X6_fitsRows_65 S) S (n + 1) _ _ _ _ _ = _
    rw [f_X6_fitsRows_3_s]
    simp (maxDischargeDepth := 40) only [hL, gc_0, gc_1, gc_2, gc_3, gc_4, gc_5, Ly_put, kcf, kca, h5, le, g0, g1, g2, x_kR (t := k.notes.2 j 1) hk (by omega), f_X6_fitsRows_39, f_X6_fitsRows_59, q1, q2, nI_1, mCp_e, mC_e, mCv_e, mZ_0, mZ_1, mZ_ifb, if_true, if_false, n10, eq_self, reduceCtorEq, Bool.false_eq_true, Nat.add_zero, Nat.reduceAdd]
    unfold fKW
    by_cases c1 : k.notes.2 j 0 = who
    · by_cases c2 : pR kd (k.notes.2 j 1) = k.notes.2 j 2
      · simp [c1, c2, mZ_0, mZ_1]
      · simp [c1, c2, mZ_0, mZ_1]
    · by_cases c2 : pR kd (k.notes.2 j 1) = k.notes.2 j 2
      · simp [c1, c2, mZ_0, mZ_1]
      · simp [c1, c2, mZ_0, mZ_1]) (fun n => by
    show f_X6_fitsRows_3 (f_X6_fitsRows_65 S) S (n + 1) _ _ _ _ _ = _
    rw [f_X6_fitsRows_3_s]
    simp (maxDischargeDepth := 40) only [hL, gc_0, gc_1, gc_2, gc_3, gc_4, gc_5, Ly_put, kcf, kca, h5, ng_i, f_X6_fitsRows_65, mCp_e, mC_e, mCv_e, mZ_0, mZ_1, mZ_ifb, if_true, if_false, n10, eq_self, reduceCtorEq, Bool.false_eq_true, Nat.add_zero, Nat.reduceAdd]) 1000 (by omega)
  unfold f_X6_fitsRows
  refine Eq.trans e ?_
  unfold sKW
  cases al (fKW k who kd) k.notes.1 <;> rfl
theorem x_kdsKW {S : mS} {k : KS} {who : Nat} (hL : Ly S) (v : VK k) (ck : CK S 1 k) (hw : who < 7) : f_X6_fittingKinds (nI 0) 0 (nI who) S = some (bI (sKW k who) 6) := by
  obtain ⟨m, e⟩ := lup (fun n j => f_X6_fittingKinds_28 (f_X6_fittingKinds_61 S) S n 0 (nI who) (nI 9) (bI (sKW k who) j) (nI j)) 6 (fun n j hj => by
    have le : ((6 : Int32) ≤ nI j) = False := eq_false (nI_ge hj (by decide))
    show f_X6_fittingKinds_28 (f_X6_fittingKinds_61 S) S (n + 1) _ _ _ _ _ = _
    rw [f_X6_fittingKinds_28_s, bI_s]
    simp (maxDischargeDepth := 40) only [hL, gc_0, gc_1, gc_2, gc_3, gc_4, gc_5, Ly_put, kcf, kca, le, x_fitKW hL v ck hw hj, f_X6_fittingKinds_55, nI_1, mCp_e, mC_e, mCv_e, mZ_0, mZ_1, mZ_ifb, if_true, if_false, n10, eq_self, reduceCtorEq, Bool.false_eq_true, Nat.add_zero, Nat.reduceAdd]
    cases sKW k who j
    · simp (maxDischargeDepth := 40) only [mCp_e, mC_e, mCv_e, mZ_0, mZ_1, mZ_ifb, if_true, if_false, n10, eq_self, reduceCtorEq, Bool.false_eq_true, Nat.add_zero, Nat.reduceAdd]
    · simp (maxDischargeDepth := 40) only [mCp_e, mC_e, mCv_e, mZ_0, mZ_1, mZ_ifb, if_true, if_false, n10, eq_self, reduceCtorEq, Bool.false_eq_true, Nat.add_zero, Nat.reduceAdd]) 1000 (by decide)
  unfold f_X6_fittingKinds
  simp (maxDischargeDepth := 40) only [hL, gc_0, gc_1, gc_2, gc_3, gc_4, gc_5, Ly_put, kcf, kca, f_X6_fittingKinds_21, mCp_e, mC_e, mCv_e, mZ_0, mZ_1, mZ_ifb, if_true, if_false, n10, eq_self, reduceCtorEq, Bool.false_eq_true, Nat.add_zero, Nat.reduceAdd]
  refine Eq.trans e ?_
  have le : ((6 : Int32) ≤ nI 6) = True := by decide
  rw [f_X6_fittingKinds_28_s]
  simp (maxDischargeDepth := 40) only [le, f_X6_fittingKinds_61, mCp_e, mC_e, mCv_e, mZ_0, mZ_1, mZ_ifb, if_true, if_false, n10, eq_self, reduceCtorEq, Bool.false_eq_true, Nat.add_zero, Nat.reduceAdd]
theorem y_kdsKW {S : mS} {k : KS} {who : Nat} (hL : Ly S) (v : VK k) (mk : MK S k) (hw : who < 7) : f_X7_whistleKinds (nI 83) (nI who) S = some (bI (sKW k who) 6) := by
  have h5 : S.2.1 83 6 = nI k.notes.1 := mk.2.2.2.1.1
  have n5 := v.2.2.2.2.1.1
  have e2s : 3 * nI k.notes.1 = nI (3 * k.notes.1) := nI_mul 3 _
  obtain ⟨m, e⟩ := lup (fun n j => f_X7_whistleKinds_4 (f_X7_whistleKinds_113 S) S n (nI 83) (nI who) (bI (sKW k who) j) (nI j)) 6 (fun n kd hk => by
    have le : ((5 : Int32) < nI kd) = False := eq_false (nI_nlt (a := 5) (b := kd) (by omega) (by decide))
    show f_X7_whistleKinds_4 (f_X7_whistleKinds_113 S) S (n + 1) _ _ _ _ = _
    rw [f_X7_whistleKinds_4_s, bI_s]
    simp (maxDischargeDepth := 40) only [le, mCp_e, mC_e, mCv_e, mZ_0, mZ_1, mZ_ifb, if_true, if_false, n10, eq_self, reduceCtorEq, Bool.false_eq_true, Nat.add_zero, Nat.reduceAdd]
    obtain ⟨m2, e2⟩ := lup (fun n2 j => f_X7_whistleKinds_15 (f_X7_whistleKinds_92 (f_X7_whistleKinds_4 (f_X7_whistleKinds_113 S) S n) S) S n2 (nI 83) (nI who) (bI (sKW k who) kd) (nI kd) (if al (fKW k who kd) j = true then 1 else 0) (nI (3 * j))) k.notes.1 (fun n2 j hj => by
      have s := v.2.2.2.2.1.2 j hj
      have le2 : (nI (3 * k.notes.1) ≤ nI (3 * j)) = False := eq_false (nI_ge (by omega) (by omega))
      have b1 : 3 * j < 18 := by omega
      have b2 : 3 * j + 1 < 18 := by omega
      have b3 : 3 * j + 2 < 18 := by omega
      have g0 : S.2.1 90 (3 * j) = nI (k.notes.2 j 0) := by have := mk.2.2.2.1.2 j hj 0 (by decide); rwa [Nat.zero_add] at this
      have g1 : S.2.1 90 (3 * j + 1) = nI (k.notes.2 j 1) := by have := mk.2.2.2.1.2 j hj 1 (by decide); rwa [Nat.zero_add] at this
      have g2 : S.2.1 90 (3 * j + 2) = nI (k.notes.2 j 2) := by have := mk.2.2.2.1.2 j hj 2 (by decide); rwa [Nat.zero_add] at this
      have q1 : (nI (pR kd (k.notes.2 j 1)) = nI (k.notes.2 j 2)) = (pR kd (k.notes.2 j 1) = k.notes.2 j 2) := eq_i (by have := pR_lt kd (k.notes.2 j 1); omega) (by omega)
      have q2 : (nI (k.notes.2 j 0) = nI who) = (k.notes.2 j 0 = who) := eq_i (by omega) (by omega)
      have g3 : nI (3 * j) + 3 = nI (3 * (j + 1)) := nI_add (3 * j) 3
      show f_X7_whistleKinds_15 _ S (n2 + 1) _ _ _ _ _ _ = _
      rw [f_X7_whistleKinds_15_s, al_s]
      simp (maxDischargeDepth := 40) only [hL, gc_0, gc_1, gc_2, gc_3, gc_4, gc_5, Ly_put, kcf, kca, h5, e2s, le2, f_X7_whistleKinds_56, f_X7_whistleKinds_79, f_X7_whistleKinds_83, f_X7_whistleKinds_84, b1, b2, b3, nI_1, nI_2, g0, g1, g2, g3, (x_reach (t := k.notes.2 j 1) hk (by omega)).2, q1, q2, mCp_e, mC_e, mCv_e, mZ_0, mZ_1, mZ_ifb, if_true, if_false, n10, eq_self, reduceCtorEq, Bool.false_eq_true, Nat.add_zero, Nat.reduceAdd]
      unfold fKW
      cases al (fun r => decide (k.notes.2 r 0 = who → pR kd (k.notes.2 r 1) = k.notes.2 r 2)) j <;> by_cases c1 : k.notes.2 j 0 = who <;> by_cases c2 : pR kd (k.notes.2 j 1) = k.notes.2 j 2 <;> simp [c1, c2]) 1000 (by omega)
    refine Eq.trans e2 ?_
    rw [f_X7_whistleKinds_15_s]
    simp (maxDischargeDepth := 40) only [hL, gc_0, gc_1, gc_2, gc_3, gc_4, gc_5, Ly_put, kcf, kca, h5, e2s, ng_i, f_X7_whistleKinds_92, f_X7_whistleKinds_105, nI_1, mCp_e, mC_e, mCv_e, mZ_0, mZ_1, mZ_ifb, if_true, if_false, n10, eq_self, reduceCtorEq, Bool.false_eq_true, Nat.add_zero, Nat.reduceAdd]
    unfold sKW
    cases al (fKW k who kd) k.notes.1
    · simp (maxDischargeDepth := 40) only [mCp_e, mC_e, mCv_e, mZ_0, mZ_1, mZ_ifb, if_true, if_false, n10, eq_self, reduceCtorEq, Bool.false_eq_true, Nat.add_zero, Nat.reduceAdd, Int32.or_zero]
    · simp (maxDischargeDepth := 40) only [mCp_e, mC_e, mCv_e, mZ_0, mZ_1, mZ_ifb, if_true, if_false, n10, eq_self, reduceCtorEq, Bool.false_eq_true, Nat.add_zero, Nat.reduceAdd]) 1000 (by decide)
  unfold f_X7_whistleKinds
  refine Eq.trans e ?_
  have le : ((5 : Int32) < nI 6) = True := by decide
  rw [f_X7_whistleKinds_4_s]
  simp (maxDischargeDepth := 40) only [le, f_X7_whistleKinds_113, mCp_e, mC_e, mCv_e, mZ_0, mZ_1, mZ_ifb, if_true, if_false, n10, eq_self, reduceCtorEq, Bool.false_eq_true, Nat.add_zero, Nat.reduceAdd]
theorem o_is {S : mS} (H : Inv S) (v1 : Int32) : Agr (f_X6_is (nI 0) v1) (f_X7_is (nI 83) v1) S := by
  obtain ⟨k, I⟩ := Inv_k H
  have hL := I.1
  have hv : VH k.h := I.2.1.1
  have hr : RH S 2 k.h := I.2.2.1.2.1
  have hm : MK S k := I.2.2.2.1
  have hq : RM S k.h := hm.2.1
  have ho : HO 2 := Or.inl rfl
  have hw := hv.1
  have hf := hv.2.1
  have w7 : k.h.w ≤ 7 := by omega
  cases c1 : dN k.h.w v1 with
  | false =>
    exact Agr_ref (v := -2) 0 (by decide) I (by simp (maxDischargeDepth := 40) only [f_X6_is, f_X6_is_29, hL, gc_0, gc_1, gc_2, gc_3, gc_4, gc_5, Ly_put, kcf, kca, x_hasW _ ho hL hr w7, x_hasS _ ho hL hr hf, x_cell, x_kind, x_iscall, x_isimage, i_in, c1, x_bad hL, mCp_e, mC_e, mCv_e, mZ_0, mZ_1, mZ_ifb, if_true, if_false, n10, eq_self, reduceCtorEq, Bool.false_eq_true, Nat.add_zero, Nat.reduceAdd]) (fun S1 hL1 hm1 => by simp (maxDischargeDepth := 40) only [f_X7_is, f_X7_is_20, hL1, gc_0, gc_1, gc_2, gc_3, gc_4, gc_5, Ly_put, kcf, kca, y_hasW _ hL1 hm1.2.1 w7, y_hasS _ hL1 hm1.2.1 hf, y_cell, y_iscall, i_in, c1, y_bad hL1, mCp_e, mC_e, mCv_e, mZ_0, mZ_1, mZ_ifb, if_true, if_false, n10, eq_self, reduceCtorEq, Bool.false_eq_true, Nat.add_zero, Nat.reduceAdd])
  | true =>
    obtain ⟨i, hi, rfl⟩ := dN_some c1 (by omega)
    exact Agr_r I (r := bI (sKW k i) 6) (by simp (maxDischargeDepth := 40) only [f_X6_is, f_X6_is_29, hL, gc_0, gc_1, gc_2, gc_3, gc_4, gc_5, Ly_put, kcf, kca, x_hasW _ ho hL hr w7, x_hasS _ ho hL hr hf, x_cell, x_kind, x_iscall, x_isimage, i_in, c1, x_kdsKW hL I.2.1 I.2.2.1 (show i < 7 by omega), mCp_e, mC_e, mCv_e, mZ_0, mZ_1, mZ_ifb, if_true, if_false, n10, eq_self, reduceCtorEq, Bool.false_eq_true, Nat.add_zero, Nat.reduceAdd]) (by simp (maxDischargeDepth := 40) only [f_X7_is, f_X7_is_20, hL, gc_0, gc_1, gc_2, gc_3, gc_4, gc_5, Ly_put, kcf, kca, y_hasW _ hL hq w7, y_hasS _ hL hq hf, y_cell, y_iscall, i_in, c1, y_kdsKW hL I.2.1 hm (show i < 7 by omega), mCp_e, mC_e, mCv_e, mZ_0, mZ_1, mZ_ifb, if_true, if_false, n10, eq_self, reduceCtorEq, Bool.false_eq_true, Nat.add_zero, Nat.reduceAdd])
def fKK (k : KS) (who kd r : Nat) : Bool := decide (k.marks.2 r 0 = who → pS kd (k.marks.2 r 1) = k.marks.2 r 2)
def sKK (k : KS) (who kd : Nat) : Bool := al (fKK k who kd) k.marks.1
theorem x_fitKK {S : mS} {k : KS} {who kd : Nat} (hL : Ly S) (v : VK k) (ck : CK S 1 k) (hw : who < 7) (hk : kd < 6) : f_X6_fitsRows (nI 11) (nI who) 1 (nI kd) S = some (if sKK k who kd = true then 1 else 0) := by
  have h5 : S.2.1 11 3 = nI k.marks.1 := ck.2.2.2.2.1.1
  have n5 := v.2.2.2.2.2.1.1
  have e := lupE (fun n j => f_X6_fitsRows_3 (f_X6_fitsRows_65 S) S n (nI 11) (nI who) 1 (nI kd) (nI j)) (fKK k who kd) k.marks.1 (some 1) (some 0) (fun n j hj => by
    have s := v.2.2.2.2.2.1.2 j hj
    have g0 : f_X3_get (nI 11) (nI j) 0 S = some (nI (k.marks.2 j 0)) := by
      rw [show (0 : Int32) = nI 0 from rfl, x_get11 hL h5 (by omega) hj (by decide)]
      exact congrArg some (by have := ck.2.2.2.2.1.2 j hj 0 (by decide); rwa [Nat.zero_add] at this)
    have g1 : f_X3_get (nI 11) (nI j) 1 S = some (nI (k.marks.2 j 1)) := by
      rw [show (1 : Int32) = nI 1 from rfl, x_get11 hL h5 (by omega) hj (by decide)]
      exact congrArg some (by have := ck.2.2.2.2.1.2 j hj 1 (by decide); rwa [Nat.zero_add] at this)
    have g2 : f_X3_get (nI 11) (nI j) 2 S = some (nI (k.marks.2 j 2)) := by
      rw [show (2 : Int32) = nI 2 from rfl, x_get11 hL h5 (by omega) hj (by decide)]
      exact congrArg some (by have := ck.2.2.2.2.1.2 j hj 2 (by decide); rwa [Nat.zero_add] at this)
    have le : (nI k.marks.1 ≤ nI j) = False := eq_false (nI_ge hj (by omega))
    have q1 : (nI (pS kd (k.marks.2 j 1)) = nI (k.marks.2 j 2)) = (pS kd (k.marks.2 j 1) = k.marks.2 j 2) := eq_i (by have := (x_sreach kd hk _ s.2.1).2.2; omega) (by omega)
    have q2 : (nI (k.marks.2 j 0) = nI who) = (k.marks.2 j 0 = who) := eq_i (by omega) (by omega)
    show f_X6_fitsRows_3 (f_X6_fitsRows_65 S) S (n + 1) _ _ _ _ _ = _
    rw [f_X6_fitsRows_3_s]
    simp (maxDischargeDepth := 40) only [hL, gc_0, gc_1, gc_2, gc_3, gc_4, gc_5, Ly_put, kcf, kca, h5, le, g0, g1, g2, x_kS (t := k.marks.2 j 1) hk s.2.1, f_X6_fitsRows_39, f_X6_fitsRows_59, q1, q2, nI_1, mCp_e, mC_e, mCv_e, mZ_0, mZ_1, mZ_ifb, if_true, if_false, n10, eq_self, reduceCtorEq, Bool.false_eq_true, Nat.add_zero, Nat.reduceAdd]
    unfold fKK
    by_cases c1 : k.marks.2 j 0 = who
    · by_cases c2 : pS kd (k.marks.2 j 1) = k.marks.2 j 2
      · simp [c1, c2, mZ_0, mZ_1]
      · simp [c1, c2, mZ_0, mZ_1]
    · by_cases c2 : pS kd (k.marks.2 j 1) = k.marks.2 j 2
      · simp [c1, c2, mZ_0, mZ_1]
      · simp [c1, c2, mZ_0, mZ_1]) (fun n => by
    show f_X6_fitsRows_3 (f_X6_fitsRows_65 S) S (n + 1) _ _ _ _ _ = _
    rw [f_X6_fitsRows_3_s]
    simp (maxDischargeDepth := 40) only [hL, gc_0, gc_1, gc_2, gc_3, gc_4, gc_5, Ly_put, kcf, kca, h5, ng_i, f_X6_fitsRows_65, mCp_e, mC_e, mCv_e, mZ_0, mZ_1, mZ_ifb, if_true, if_false, n10, eq_self, reduceCtorEq, Bool.false_eq_true, Nat.add_zero, Nat.reduceAdd]) 1000 (by omega)
  unfold f_X6_fitsRows
  refine Eq.trans e ?_
  unfold sKK
  cases al (fKK k who kd) k.marks.1 <;> rfl
theorem x_kdsKK {S : mS} {k : KS} {who : Nat} (hL : Ly S) (v : VK k) (ck : CK S 1 k) (hw : who < 7) : f_X6_fittingKinds (nI 0) 1 (nI who) S = some (bI (sKK k who) 6) := by
  obtain ⟨m, e⟩ := lup (fun n j => f_X6_fittingKinds_28 (f_X6_fittingKinds_61 S) S n 1 (nI who) (nI 11) (bI (sKK k who) j) (nI j)) 6 (fun n j hj => by
    have le : ((6 : Int32) ≤ nI j) = False := eq_false (nI_ge hj (by decide))
    show f_X6_fittingKinds_28 (f_X6_fittingKinds_61 S) S (n + 1) _ _ _ _ _ = _
    rw [f_X6_fittingKinds_28_s, bI_s]
    simp (maxDischargeDepth := 40) only [hL, gc_0, gc_1, gc_2, gc_3, gc_4, gc_5, Ly_put, kcf, kca, le, x_fitKK hL v ck hw hj, f_X6_fittingKinds_55, nI_1, mCp_e, mC_e, mCv_e, mZ_0, mZ_1, mZ_ifb, if_true, if_false, n10, eq_self, reduceCtorEq, Bool.false_eq_true, Nat.add_zero, Nat.reduceAdd]
    cases sKK k who j
    · simp (maxDischargeDepth := 40) only [mCp_e, mC_e, mCv_e, mZ_0, mZ_1, mZ_ifb, if_true, if_false, n10, eq_self, reduceCtorEq, Bool.false_eq_true, Nat.add_zero, Nat.reduceAdd]
    · simp (maxDischargeDepth := 40) only [mCp_e, mC_e, mCv_e, mZ_0, mZ_1, mZ_ifb, if_true, if_false, n10, eq_self, reduceCtorEq, Bool.false_eq_true, Nat.add_zero, Nat.reduceAdd]) 1000 (by decide)
  unfold f_X6_fittingKinds
  simp (maxDischargeDepth := 40) only [hL, gc_0, gc_1, gc_2, gc_3, gc_4, gc_5, Ly_put, kcf, kca, f_X6_fittingKinds_21, mCp_e, mC_e, mCv_e, mZ_0, mZ_1, mZ_ifb, if_true, if_false, n10, eq_self, reduceCtorEq, Bool.false_eq_true, Nat.add_zero, Nat.reduceAdd]
  refine Eq.trans e ?_
  have le : ((6 : Int32) ≤ nI 6) = True := by decide
  rw [f_X6_fittingKinds_28_s]
  simp (maxDischargeDepth := 40) only [le, f_X6_fittingKinds_61, mCp_e, mC_e, mCv_e, mZ_0, mZ_1, mZ_ifb, if_true, if_false, n10, eq_self, reduceCtorEq, Bool.false_eq_true, Nat.add_zero, Nat.reduceAdd]
theorem y_kdsKK {S : mS} {k : KS} {who : Nat} (hL : Ly S) (v : VK k) (mk : MK S k) (hw : who < 7) : f_X7_sheepKinds (nI 83) (nI who) S = some (bI (sKK k who) 6) := by
  have h5 : S.2.1 83 7 = nI k.marks.1 := mk.2.2.2.2.1.1
  have n5 := v.2.2.2.2.2.1.1
  have e2s : 3 * nI k.marks.1 = nI (3 * k.marks.1) := nI_mul 3 _
  obtain ⟨m, e⟩ := lup (fun n j => f_X7_sheepKinds_4 (f_X7_sheepKinds_113 S) S n (nI 83) (nI who) (bI (sKK k who) j) (nI j)) 6 (fun n kd hk => by
    have le : ((5 : Int32) < nI kd) = False := eq_false (nI_nlt (a := 5) (b := kd) (by omega) (by decide))
    show f_X7_sheepKinds_4 (f_X7_sheepKinds_113 S) S (n + 1) _ _ _ _ = _
    rw [f_X7_sheepKinds_4_s, bI_s]
    simp (maxDischargeDepth := 40) only [le, mCp_e, mC_e, mCv_e, mZ_0, mZ_1, mZ_ifb, if_true, if_false, n10, eq_self, reduceCtorEq, Bool.false_eq_true, Nat.add_zero, Nat.reduceAdd]
    obtain ⟨m2, e2⟩ := lup (fun n2 j => f_X7_sheepKinds_15 (f_X7_sheepKinds_92 (f_X7_sheepKinds_4 (f_X7_sheepKinds_113 S) S n) S) S n2 (nI 83) (nI who) (bI (sKK k who) kd) (nI kd) (if al (fKK k who kd) j = true then 1 else 0) (nI (3 * j))) k.marks.1 (fun n2 j hj => by
      have s := v.2.2.2.2.2.1.2 j hj
      have le2 : (nI (3 * k.marks.1) ≤ nI (3 * j)) = False := eq_false (nI_ge (by omega) (by omega))
      have b1 : 3 * j < 18 := by omega
      have b2 : 3 * j + 1 < 18 := by omega
      have b3 : 3 * j + 2 < 18 := by omega
      have g0 : S.2.1 91 (3 * j) = nI (k.marks.2 j 0) := by have := mk.2.2.2.2.1.2 j hj 0 (by decide); rwa [Nat.zero_add] at this
      have g1 : S.2.1 91 (3 * j + 1) = nI (k.marks.2 j 1) := by have := mk.2.2.2.2.1.2 j hj 1 (by decide); rwa [Nat.zero_add] at this
      have g2 : S.2.1 91 (3 * j + 2) = nI (k.marks.2 j 2) := by have := mk.2.2.2.2.1.2 j hj 2 (by decide); rwa [Nat.zero_add] at this
      have q1 : (nI (pS kd (k.marks.2 j 1)) = nI (k.marks.2 j 2)) = (pS kd (k.marks.2 j 1) = k.marks.2 j 2) := eq_i (by have := (x_sreach kd hk _ s.2.1).2.2; omega) (by omega)
      have q2 : (nI (k.marks.2 j 0) = nI who) = (k.marks.2 j 0 = who) := eq_i (by omega) (by omega)
      have g3 : nI (3 * j) + 3 = nI (3 * (j + 1)) := nI_add (3 * j) 3
      show f_X7_sheepKinds_15 _ S (n2 + 1) _ _ _ _ _ _ = _
      rw [f_X7_sheepKinds_15_s, al_s]
      simp (maxDischargeDepth := 40) only [hL, gc_0, gc_1, gc_2, gc_3, gc_4, gc_5, Ly_put, kcf, kca, h5, e2s, le2, f_X7_sheepKinds_56, f_X7_sheepKinds_79, f_X7_sheepKinds_83, f_X7_sheepKinds_84, b1, b2, b3, nI_1, nI_2, g0, g1, g2, g3, (x_sreach kd hk _ s.2.1).2.1, q1, q2, mCp_e, mC_e, mCv_e, mZ_0, mZ_1, mZ_ifb, if_true, if_false, n10, eq_self, reduceCtorEq, Bool.false_eq_true, Nat.add_zero, Nat.reduceAdd]
      unfold fKK
      cases al (fun r => decide (k.marks.2 r 0 = who → pS kd (k.marks.2 r 1) = k.marks.2 r 2)) j <;> by_cases c1 : k.marks.2 j 0 = who <;> by_cases c2 : pS kd (k.marks.2 j 1) = k.marks.2 j 2 <;> simp [c1, c2]) 1000 (by omega)
    refine Eq.trans e2 ?_
    rw [f_X7_sheepKinds_15_s]
    simp (maxDischargeDepth := 40) only [hL, gc_0, gc_1, gc_2, gc_3, gc_4, gc_5, Ly_put, kcf, kca, h5, e2s, ng_i, f_X7_sheepKinds_92, f_X7_sheepKinds_105, nI_1, mCp_e, mC_e, mCv_e, mZ_0, mZ_1, mZ_ifb, if_true, if_false, n10, eq_self, reduceCtorEq, Bool.false_eq_true, Nat.add_zero, Nat.reduceAdd]
    unfold sKK
    cases al (fKK k who kd) k.marks.1
    · simp (maxDischargeDepth := 40) only [mCp_e, mC_e, mCv_e, mZ_0, mZ_1, mZ_ifb, if_true, if_false, n10, eq_self, reduceCtorEq, Bool.false_eq_true, Nat.add_zero, Nat.reduceAdd, Int32.or_zero]
    · simp (maxDischargeDepth := 40) only [mCp_e, mC_e, mCv_e, mZ_0, mZ_1, mZ_ifb, if_true, if_false, n10, eq_self, reduceCtorEq, Bool.false_eq_true, Nat.add_zero, Nat.reduceAdd]) 1000 (by decide)
  unfold f_X7_sheepKinds
  refine Eq.trans e ?_
  have le : ((5 : Int32) < nI 6) = True := by decide
  rw [f_X7_sheepKinds_4_s]
  simp (maxDischargeDepth := 40) only [le, f_X7_sheepKinds_113, mCp_e, mC_e, mCv_e, mZ_0, mZ_1, mZ_ifb, if_true, if_false, n10, eq_self, reduceCtorEq, Bool.false_eq_true, Nat.add_zero, Nat.reduceAdd]
theorem o_kinds {S : mS} (H : Inv S) (v1 : Int32) : Agr (f_X6_kinds (nI 0) v1) (f_X7_kinds (nI 83) v1) S := by
  obtain ⟨k, I⟩ := Inv_k H
  have hL := I.1
  have hv : VH k.h := I.2.1.1
  have hr : RH S 2 k.h := I.2.2.1.2.1
  have hm : MK S k := I.2.2.2.1
  have hq : RM S k.h := hm.2.1
  have ho : HO 2 := Or.inl rfl
  have hw := hv.1
  have hf := hv.2.1
  have w7 : k.h.w ≤ 7 := by omega
  cases c1 : dN k.h.f v1 with
  | false =>
    exact Agr_ref (v := -2) 0 (by decide) I (by simp (maxDischargeDepth := 40) only [f_X6_kinds, f_X6_kinds_29, hL, gc_0, gc_1, gc_2, gc_3, gc_4, gc_5, Ly_put, kcf, kca, x_hasW _ ho hL hr w7, x_hasS _ ho hL hr hf, x_cell, x_kind, x_iscall, x_isimage, i_in, c1, x_bad hL, mCp_e, mC_e, mCv_e, mZ_0, mZ_1, mZ_ifb, if_true, if_false, n10, eq_self, reduceCtorEq, Bool.false_eq_true, Nat.add_zero, Nat.reduceAdd]) (fun S1 hL1 hm1 => by simp (maxDischargeDepth := 40) only [f_X7_kinds, f_X7_kinds_20, hL1, gc_0, gc_1, gc_2, gc_3, gc_4, gc_5, Ly_put, kcf, kca, y_hasW _ hL1 hm1.2.1 w7, y_hasS _ hL1 hm1.2.1 hf, y_cell, y_iscall, i_in, c1, y_bad hL1, mCp_e, mC_e, mCv_e, mZ_0, mZ_1, mZ_ifb, if_true, if_false, n10, eq_self, reduceCtorEq, Bool.false_eq_true, Nat.add_zero, Nat.reduceAdd])
  | true =>
    obtain ⟨i, hi, rfl⟩ := dN_some c1 (by omega)
    exact Agr_r I (r := bI (sKK k i) 6) (by simp (maxDischargeDepth := 40) only [f_X6_kinds, f_X6_kinds_29, hL, gc_0, gc_1, gc_2, gc_3, gc_4, gc_5, Ly_put, kcf, kca, x_hasW _ ho hL hr w7, x_hasS _ ho hL hr hf, x_cell, x_kind, x_iscall, x_isimage, i_in, c1, x_kdsKK hL I.2.1 I.2.2.1 (show i < 7 by omega), mCp_e, mC_e, mCv_e, mZ_0, mZ_1, mZ_ifb, if_true, if_false, n10, eq_self, reduceCtorEq, Bool.false_eq_true, Nat.add_zero, Nat.reduceAdd]) (by simp (maxDischargeDepth := 40) only [f_X7_kinds, f_X7_kinds_20, hL, gc_0, gc_1, gc_2, gc_3, gc_4, gc_5, Ly_put, kcf, kca, y_hasW _ hL hq w7, y_hasS _ hL hq hf, y_cell, y_iscall, i_in, c1, y_kdsKK hL I.2.1 hm (show i < 7 by omega), mCp_e, mC_e, mCv_e, mZ_0, mZ_1, mZ_ifb, if_true, if_false, n10, eq_self, reduceCtorEq, Bool.false_eq_true, Nat.add_zero, Nat.reduceAdd])
