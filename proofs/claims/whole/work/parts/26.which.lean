/-! which call it was -/
theorem al_s (p : Nat → Bool) (n : Nat) : al p (n + 1) = (al p n && p n) := rfl
theorem cnt_s (p : Nat → Bool) (n : Nat) : cnt p (n + 1) = cnt p n + (if p n = true then 1 else 0) := rfl
theorem bI_s (p : Nat → Bool) (n : Nat) : bI p (n + 1) = if p n = true then bI p n ||| (1 <<< (nI n &&& 31)) else bI p n := rfl
def fS (k : KS) (i d r : Nat) : Bool := decide (aG k.h (k.seen.2 r 0) i d = k.seen.2 r 1)
def fC (k : KS) (i d : Nat) : Bool := al (fS k i d) k.seen.1
theorem fS_e {k : KS} {i d r : Nat} (v : VK k) (hr : r < k.seen.1) (hi : i < k.h.w) (hd : d < 5) : (nI (aG k.h (k.seen.2 r 0) i d) = nI (k.seen.2 r 1)) = (fS k i d r = true) := by
  have s := v.2.2.2.1.2 r hr
  rw [eq_i (by have := aG_lt v.1 s.1 hi hd; omega) (by omega)]
  unfold fS
  rw [decide_eq_true_eq]
theorem x_fitS {S : mS} {k : KS} {i d : Nat} (hL : Ly S) (v : VK k) (ck : CK S 1 k) (hi : i < k.h.w) (hd : d < 5) : f_X6_fitsSights (nI 0) (nI i) (nI d) S = some (if fC k i d = true then 1 else 0) := by
  have ho : HO 2 := Or.inl rfl
  have hr : RH S 2 k.h := ck.2.1
  have h5 : S.2.1 7 3 = nI k.seen.1 := ck.2.2.1.1
  have n5 := v.2.2.2.1.1
  have e := lupE (fun n j => f_X6_fitsSights_2 (f_X6_fitsSights_63 S) S n (nI 0) (nI i) (nI d) (nI j)) (fS k i d) k.seen.1 (some 1) (some 0) (fun n j hj => by
    have s := v.2.2.2.1.2 j hj
    have g0 : f_X3_get (nI 7) (nI j) 0 S = some (nI (k.seen.2 j 0)) := by
      rw [show (0 : Int32) = nI 0 from rfl, x_get7 hL h5 (by omega) hj (by decide)]
      exact congrArg some (by have := ck.2.2.1.2 j hj 0 (by decide); rwa [Nat.zero_add] at this)
    have g1 : f_X3_get (nI 7) (nI j) 1 S = some (nI (k.seen.2 j 1)) := by
      rw [show (1 : Int32) = nI 1 from rfl, x_get7 hL h5 (by omega) hj (by decide)]
      exact congrArg some (by have := ck.2.2.1.2 j hj 1 (by decide); rwa [Nat.zero_add] at this)
    have le : (nI k.seen.1 ≤ nI j) = False := eq_false (nI_ge hj (by omega))
    show f_X6_fitsSights_2 (f_X6_fitsSights_63 S) S (n + 1) _ _ _ _ = _
    rw [f_X6_fitsSights_2_s]
    simp (maxDischargeDepth := 40) only [hL, gc_0, gc_1, gc_2, gc_3, gc_4, gc_5, Ly_put, kcf, kca, h5, le, g0, g1, x_sTo ho hL hr v.1 s.1 hi hd, fS_e v hj hi hd, nI_1, mCp_e, mC_e, mCv_e, mZ_0, mZ_1, mZ_ifb, if_true, if_false, n10, eq_self, reduceCtorEq, Bool.false_eq_true, Nat.add_zero, Nat.reduceAdd]) (fun n => by
    show f_X6_fitsSights_2 (f_X6_fitsSights_63 S) S (n + 1) _ _ _ _ = _
    rw [f_X6_fitsSights_2_s]
    simp (maxDischargeDepth := 40) only [hL, gc_0, gc_1, gc_2, gc_3, gc_4, gc_5, Ly_put, kcf, kca, h5, ng_i, f_X6_fitsSights_63, mCp_e, mC_e, mCv_e, mZ_0, mZ_1, mZ_ifb, if_true, if_false, n10, eq_self, reduceCtorEq, Bool.false_eq_true, Nat.add_zero, Nat.reduceAdd]) 1000 (by omega)
  unfold f_X6_fitsSights
  refine Eq.trans e ?_
  unfold fC
  cases al (fS k i d) k.seen.1 <;> rfl
theorem x_fitC {S : mS} {k : KS} {i : Nat} (hL : Ly S) (v : VK k) (ck : CK S 1 k) (hi : i < k.h.w) : f_X6_fittingCalls (nI 0) (nI i) S = some (bI (fC k i) 5) := by
  obtain ⟨m, e⟩ := lup (fun n j => f_X6_fittingCalls_4 (f_X6_fittingCalls_30 S) S n (nI 0) (nI i) (bI (fC k i) j) (nI j)) 5 (fun n j hj => by
    have le : ((5 : Int32) ≤ nI j) = False := eq_false (nI_ge hj (by decide))
    show f_X6_fittingCalls_4 (f_X6_fittingCalls_30 S) S (n + 1) _ _ _ _ = f_X6_fittingCalls_4 (f_X6_fittingCalls_30 S) S n (nI 0) (nI i) (if fC k i j = true then _ else _) (nI (j + 1))
    rw [f_X6_fittingCalls_4_s]
    simp (maxDischargeDepth := 40) only [hL, gc_0, gc_1, gc_2, gc_3, gc_4, gc_5, Ly_put, kcf, kca, le, x_fitS hL v ck hi hj, f_X6_fittingCalls_24, nI_1, mCp_e, mC_e, mCv_e, mZ_0, mZ_1, mZ_ifb, if_true, if_false, n10, eq_self, reduceCtorEq, Bool.false_eq_true, Nat.add_zero, Nat.reduceAdd]
    cases fC k i j
    · simp (maxDischargeDepth := 40) only [mCp_e, mC_e, mCv_e, mZ_0, mZ_1, mZ_ifb, if_true, if_false, n10, eq_self, reduceCtorEq, Bool.false_eq_true, Nat.add_zero, Nat.reduceAdd]
    · simp (maxDischargeDepth := 40) only [mCp_e, mC_e, mCv_e, mZ_0, mZ_1, mZ_ifb, if_true, if_false, n10, eq_self, reduceCtorEq, Bool.false_eq_true, Nat.add_zero, Nat.reduceAdd]) 1000 (by decide)
  unfold f_X6_fittingCalls
  refine Eq.trans e ?_
  have le : ((5 : Int32) ≤ nI 5) = True := by decide
  rw [f_X6_fittingCalls_4_s]
  simp (maxDischargeDepth := 40) only [le, f_X6_fittingCalls_30, mCp_e, mC_e, mCv_e, mZ_0, mZ_1, mZ_ifb, if_true, if_false, n10, eq_self, reduceCtorEq, Bool.false_eq_true, Nat.add_zero, Nat.reduceAdd]
theorem y_cBy {S : mS} {k : KS} {i : Nat} (hL : Ly S) (v : VK k) (mk : MK S k) (hi : i < k.h.w) : f_X7_callsBy (nI 83) (nI i) S = some (bI (fC k i) 5) := by
  have hr : RM S k.h := mk.2.1
  have h5 : S.2.1 83 5 = nI k.seen.1 := mk.2.2.1.1
  have n5 := v.2.2.2.1.1
  have e2s : 2 * nI k.seen.1 = nI (2 * k.seen.1) := nI_mul 2 _
  obtain ⟨m, e⟩ := lup (fun n j => f_X7_callsBy_4 (f_X7_callsBy_90 S) S n (nI 83) (nI i) (bI (fC k i) j) (nI j)) 5 (fun n d hd => by
    have le : ((5 : Int32) ≤ nI d) = False := eq_false (nI_ge hd (by decide))
    show f_X7_callsBy_4 (f_X7_callsBy_90 S) S (n + 1) _ _ _ _ = f_X7_callsBy_4 (f_X7_callsBy_90 S) S n (nI 83) (nI i) (if fC k i d = true then _ else _) (nI (d + 1))
    rw [f_X7_callsBy_4_s]
    simp (maxDischargeDepth := 40) only [le, mCp_e, mC_e, mCv_e, mZ_0, mZ_1, mZ_ifb, if_true, if_false, n10, eq_self, reduceCtorEq, Bool.false_eq_true, Nat.add_zero, Nat.reduceAdd]
    obtain ⟨m2, e2⟩ := lup (fun n2 j => f_X7_callsBy_15 (f_X7_callsBy_69 (f_X7_callsBy_4 (f_X7_callsBy_90 S) S n) S) S n2 (nI 83) (nI i) (bI (fC k i) d) (nI d) (if al (fS k i d) j = true then 1 else 0) (nI (2 * j))) k.seen.1 (fun n2 j hj => by
      have s := v.2.2.2.1.2 j hj
      have le2 : (nI (2 * k.seen.1) ≤ nI (2 * j)) = False := eq_false (nI_ge (by omega) (by omega))
      have b1 : 2 * j < 10 := by omega
      have b2 : 2 * j + 1 < 10 := by omega
      have g0 : S.2.1 89 (2 * j) = nI (k.seen.2 j 0) := by have := mk.2.2.1.2 j hj 0 (by decide); rwa [Nat.zero_add] at this
      have g1 : S.2.1 89 (2 * j + 1) = nI (k.seen.2 j 1) := by have := mk.2.2.1.2 j hj 1 (by decide); rwa [Nat.zero_add] at this
      show f_X7_callsBy_15 _ S (n2 + 1) _ _ _ _ _ _ = _
      rw [f_X7_callsBy_15_s]
      have g2 : nI (2 * j) + 2 = nI (2 * (j + 1)) := nI_add (2 * j) 2
      simp (maxDischargeDepth := 40) only [hL, gc_0, gc_1, gc_2, gc_3, gc_4, gc_5, Ly_put, kcf, kca, h5, e2s, le2, f_X7_callsBy_60, f_X7_callsBy_61, b1, b2, nI_1, g0, g1, g2, y_gTo hL hr v.1 s.1 hi hd, fS_e v hj hi hd, mCp_e, mC_e, mCv_e, mZ_0, mZ_1, mZ_ifb, if_true, if_false, n10, eq_self, reduceCtorEq, Bool.false_eq_true, Nat.add_zero, Nat.reduceAdd]
      rw [al_s]
      cases al (fS k i d) j
      · simp (maxDischargeDepth := 40) only [mCp_e, mC_e, mCv_e, mZ_0, mZ_1, mZ_ifb, if_true, if_false, n10, eq_self, reduceCtorEq, Bool.false_eq_true, Nat.add_zero, Nat.reduceAdd, Bool.false_and]
      · cases fS k i d j
        · simp (maxDischargeDepth := 40) only [mCp_e, mC_e, mCv_e, mZ_0, mZ_1, mZ_ifb, if_true, if_false, n10, eq_self, reduceCtorEq, Bool.false_eq_true, Nat.add_zero, Nat.reduceAdd, Bool.and_false]
        · simp (maxDischargeDepth := 40) only [mCp_e, mC_e, mCv_e, mZ_0, mZ_1, mZ_ifb, if_true, if_false, n10, eq_self, reduceCtorEq, Bool.false_eq_true, Nat.add_zero, Nat.reduceAdd, Bool.and_self]) 1000 (by omega)
    refine Eq.trans e2 ?_
    rw [f_X7_callsBy_15_s]
    simp (maxDischargeDepth := 40) only [hL, gc_0, gc_1, gc_2, gc_3, gc_4, gc_5, Ly_put, kcf, kca, h5, e2s, ng_i, f_X7_callsBy_69, f_X7_callsBy_82, nI_1, mCp_e, mC_e, mCv_e, mZ_0, mZ_1, mZ_ifb, if_true, if_false, n10, eq_self, reduceCtorEq, Bool.false_eq_true, Nat.add_zero, Nat.reduceAdd]
    unfold fC
    cases al (fS k i d) k.seen.1
    · simp (maxDischargeDepth := 40) only [mCp_e, mC_e, mCv_e, mZ_0, mZ_1, mZ_ifb, if_true, if_false, n10, eq_self, reduceCtorEq, Bool.false_eq_true, Nat.add_zero, Nat.reduceAdd, Int32.or_zero]
    · simp (maxDischargeDepth := 40) only [mCp_e, mC_e, mCv_e, mZ_0, mZ_1, mZ_ifb, if_true, if_false, n10, eq_self, reduceCtorEq, Bool.false_eq_true, Nat.add_zero, Nat.reduceAdd]) 1000 (by decide)
  unfold f_X7_callsBy
  refine Eq.trans e ?_
  have le : ((5 : Int32) ≤ nI 5) = True := by decide
  rw [f_X7_callsBy_4_s]
  simp (maxDischargeDepth := 40) only [le, f_X7_callsBy_90, mCp_e, mC_e, mCv_e, mZ_0, mZ_1, mZ_ifb, if_true, if_false, n10, eq_self, reduceCtorEq, Bool.false_eq_true, Nat.add_zero, Nat.reduceAdd]
theorem o_which {S : mS} (H : Inv S) (v1 : Int32) : Agr (f_X6_which (nI 0) v1) (f_X7_which (nI 83) v1) S := by
  obtain ⟨k, I⟩ := Inv_k H
  have hL := I.1
  have hv : VH k.h := I.2.1.1
  have hr : RH S 2 k.h := I.2.2.1.2.1
  have hm : MK S k := I.2.2.2.1
  have hq : RM S k.h := hm.2.1
  have ho : HO 2 := Or.inl rfl
  have hw := hv.1
  have hf := hv.2.1
  have w7 : k.h.w ≤ 7 := by omega
  cases c1 : dN k.h.w v1 with
  | false =>
    exact Agr_ref (v := -2) 0 (by decide) I (by simp (maxDischargeDepth := 40) only [f_X6_which, f_X6_which_28, hL, gc_0, gc_1, gc_2, gc_3, gc_4, gc_5, Ly_put, kcf, kca, x_hasW _ ho hL hr w7, x_hasS _ ho hL hr hf, x_cell, x_kind, x_iscall, x_isimage, i_in, c1, x_bad hL, mCp_e, mC_e, mCv_e, mZ_0, mZ_1, mZ_ifb, if_true, if_false, n10, eq_self, reduceCtorEq, Bool.false_eq_true, Nat.add_zero, Nat.reduceAdd]) (fun S1 hL1 hm1 => by simp (maxDischargeDepth := 40) only [f_X7_which, f_X7_which_20, hL1, gc_0, gc_1, gc_2, gc_3, gc_4, gc_5, Ly_put, kcf, kca, y_hasW _ hL1 hm1.2.1 w7, y_hasS _ hL1 hm1.2.1 hf, y_cell, y_iscall, i_in, c1, y_bad hL1, mCp_e, mC_e, mCv_e, mZ_0, mZ_1, mZ_ifb, if_true, if_false, n10, eq_self, reduceCtorEq, Bool.false_eq_true, Nat.add_zero, Nat.reduceAdd])
  | true =>
    obtain ⟨i, hi, rfl⟩ := dN_some c1 (by omega)
    exact Agr_r I (r := bI (fC k i) 5) (by simp (maxDischargeDepth := 40) only [f_X6_which, f_X6_which_28, hL, gc_0, gc_1, gc_2, gc_3, gc_4, gc_5, Ly_put, kcf, kca, x_hasW _ ho hL hr w7, x_hasS _ ho hL hr hf, x_cell, x_kind, x_iscall, x_isimage, i_in, c1, x_fitC hL I.2.1 I.2.2.1 hi, mCp_e, mC_e, mCv_e, mZ_0, mZ_1, mZ_ifb, if_true, if_false, n10, eq_self, reduceCtorEq, Bool.false_eq_true, Nat.add_zero, Nat.reduceAdd]) (by simp (maxDischargeDepth := 40) only [f_X7_which, f_X7_which_20, hL, gc_0, gc_1, gc_2, gc_3, gc_4, gc_5, Ly_put, kcf, kca, y_hasW _ hL hq w7, y_hasS _ hL hq hf, y_cell, y_iscall, i_in, c1, y_cBy hL I.2.1 hm hi, mCp_e, mC_e, mCv_e, mZ_0, mZ_1, mZ_ifb, if_true, if_false, n10, eq_self, reduceCtorEq, Bool.false_eq_true, Nat.add_zero, Nat.reduceAdd])
