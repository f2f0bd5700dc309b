/-! THE OPERATIONS, one by one: both sides answer alike and keep what holds -/
theorem o_goes {S : mS} (H : Inv S) (v1 v2 : Int32) : Agr (f_X6_goes (nI 0) v1 v2) (f_X7_goes (nI 83) v1 v2) S := by
  obtain ⟨k, I⟩ := Inv_k H
  have hL := I.1
  have hv : VH k.h := I.2.1.1
  have hr : RH S 2 k.h := I.2.2.1.2.1
  have hm : MK S k := I.2.2.2.1
  have hq : RM S k.h := hm.2.1
  have ho : HO 2 := Or.inl rfl
  have hw := hv.1
  have hf := hv.2.1
  have w7 : k.h.w ≤ 7 := by omega
  cases c1 : dN k.h.w v1 with
  | false =>
    exact Agr_ref (v := -2) 0 (by decide) I (by simp (maxDischargeDepth := 40) only [f_X6_goes, f_X6_goes_21, hL, gc_0, gc_1, gc_2, gc_3, gc_4, gc_5, Ly_put, kcf, kca, x_hasW _ ho hL hr w7, x_hasS _ ho hL hr hf, x_cell, x_kind, x_iscall, x_isimage, i_in, c1, x_bad hL, mCp_e, mC_e, mCv_e, mZ_0, mZ_1, mZ_ifb, if_true, if_false, n10, eq_self, reduceCtorEq, Bool.false_eq_true, Nat.add_zero, Nat.reduceAdd]) (fun S1 hL1 hm1 => by simp (maxDischargeDepth := 40) only [f_X7_goes, f_X7_goes_34, f_X7_goes_38, hL1, gc_0, gc_1, gc_2, gc_3, gc_4, gc_5, Ly_put, kcf, kca, y_hasW _ hL1 hm1.2.1 w7, y_hasS _ hL1 hm1.2.1 hf, y_cell, y_iscall, i_in, c1, y_bad hL1, mCp_e, mC_e, mCv_e, mZ_0, mZ_1, mZ_ifb, if_true, if_false, n10, eq_self, reduceCtorEq, Bool.false_eq_true, Nat.add_zero, Nat.reduceAdd])
  | true =>
    cases c2 : dN 5 v2 with
    | false =>
      exact Agr_ref (v := -2) 0 (by decide) I (by simp (maxDischargeDepth := 40) only [f_X6_goes, f_X6_goes_21, hL, gc_0, gc_1, gc_2, gc_3, gc_4, gc_5, Ly_put, kcf, kca, x_hasW _ ho hL hr w7, x_hasS _ ho hL hr hf, x_cell, x_kind, x_iscall, x_isimage, i_in, c1, c2, x_bad hL, mCp_e, mC_e, mCv_e, mZ_0, mZ_1, mZ_ifb, if_true, if_false, n10, eq_self, reduceCtorEq, Bool.false_eq_true, Nat.add_zero, Nat.reduceAdd]) (fun S1 hL1 hm1 => by simp (maxDischargeDepth := 40) only [f_X7_goes, f_X7_goes_34, f_X7_goes_38, hL1, gc_0, gc_1, gc_2, gc_3, gc_4, gc_5, Ly_put, kcf, kca, y_hasW _ hL1 hm1.2.1 w7, y_hasS _ hL1 hm1.2.1 hf, y_cell, y_iscall, i_in, c1, c2, y_bad hL1, mCp_e, mC_e, mCv_e, mZ_0, mZ_1, mZ_ifb, if_true, if_false, n10, eq_self, reduceCtorEq, Bool.false_eq_true, Nat.add_zero, Nat.reduceAdd])
    | true =>
      obtain ⟨i, hi, rfl⟩ := dN_some c1 (by omega)
      obtain ⟨d, hd, rfl⟩ := dN_some c2 (by decide)
      have i3 : i < 3 := by omega
      exact Agr_r I (r := nI (aT k.h i d k.h.t)) (by simp (maxDischargeDepth := 40) only [f_X6_goes, hL, gc_0, gc_1, gc_2, gc_3, gc_4, gc_5, Ly_put, kcf, kca, x_hasW _ ho hL hr w7, x_hasS _ ho hL hr hf, x_cell, x_kind, x_iscall, x_isimage, i_in, c1, c2, x_wTo ho hL hr hv hi hd, mCp_e, mC_e, mCv_e, mZ_0, mZ_1, mZ_ifb, if_true, if_false, n10, eq_self, reduceCtorEq, Bool.false_eq_true, Nat.add_zero, Nat.reduceAdd]) (by
        simp (maxDischargeDepth := 40) only [f_X7_goes, hL, gc_0, gc_1, gc_2, gc_3, gc_4, gc_5, Ly_put, kcf, kca, y_hasW _ hL hq w7, y_hasS _ hL hq hf, y_cell, y_iscall, i_in, c1, c2, i3, (hq.2.2.2.1 i hi).2, hq.2.2.1, y_wTh hL hq hv hi (hv.2.2.2.1 i hi).2 hd hv.2.2.1, f_X7_goes_38, mCp_e, mC_e, mCv_e, mZ_0, mZ_1, mZ_ifb, if_true, if_false, n10, eq_self, reduceCtorEq, Bool.false_eq_true, Nat.add_zero, Nat.reduceAdd]
        rfl)
theorem o_gives {S : mS} (H : Inv S) (v1 v2 v3 : Int32) : Agr (f_X6_gives (nI 0) v1 v2 v3) (f_X7_gives (nI 83) v1 v2 v3) S := by
  obtain ⟨k, I⟩ := Inv_k H
  have hL := I.1
  have hv : VH k.h := I.2.1.1
  have hr : RH S 2 k.h := I.2.2.1.2.1
  have hm : MK S k := I.2.2.2.1
  have hq : RM S k.h := hm.2.1
  have ho : HO 2 := Or.inl rfl
  have hw := hv.1
  have hf := hv.2.1
  have w7 : k.h.w ≤ 7 := by omega
  cases c1 : dN k.h.f v1 with
  | false =>
    exact Agr_ref (v := -2) 0 (by decide) I (by simp (maxDischargeDepth := 40) only [f_X6_gives, f_X6_gives_35, hL, gc_0, gc_1, gc_2, gc_3, gc_4, gc_5, Ly_put, kcf, kca, x_hasW _ ho hL hr w7, x_hasS _ ho hL hr hf, x_cell, x_kind, x_iscall, x_isimage, i_in, c1, x_bad hL, mCp_e, mC_e, mCv_e, mZ_0, mZ_1, mZ_ifb, if_true, if_false, n10, eq_self, reduceCtorEq, Bool.false_eq_true, Nat.add_zero, Nat.reduceAdd]) (fun S1 hL1 hm1 => by simp (maxDischargeDepth := 40) only [f_X7_gives, f_X7_gives_33, f_X7_gives_37, hL1, gc_0, gc_1, gc_2, gc_3, gc_4, gc_5, Ly_put, kcf, kca, y_hasW _ hL1 hm1.2.1 w7, y_hasS _ hL1 hm1.2.1 hf, y_cell, y_iscall, i_in, c1, y_bad hL1, mCp_e, mC_e, mCv_e, mZ_0, mZ_1, mZ_ifb, if_true, if_false, n10, eq_self, reduceCtorEq, Bool.false_eq_true, Nat.add_zero, Nat.reduceAdd])
  | true =>
    cases c2 : dN k.h.w v2 with
    | false =>
      exact Agr_ref (v := -2) 0 (by decide) I (by simp (maxDischargeDepth := 40) only [f_X6_gives, f_X6_gives_35, hL, gc_0, gc_1, gc_2, gc_3, gc_4, gc_5, Ly_put, kcf, kca, x_hasW _ ho hL hr w7, x_hasS _ ho hL hr hf, x_cell, x_kind, x_iscall, x_isimage, i_in, c1, c2, x_bad hL, mCp_e, mC_e, mCv_e, mZ_0, mZ_1, mZ_ifb, if_true, if_false, n10, eq_self, reduceCtorEq, Bool.false_eq_true, Nat.add_zero, Nat.reduceAdd]) (fun S1 hL1 hm1 => by simp (maxDischargeDepth := 40) only [f_X7_gives, f_X7_gives_33, f_X7_gives_37, hL1, gc_0, gc_1, gc_2, gc_3, gc_4, gc_5, Ly_put, kcf, kca, y_hasW _ hL1 hm1.2.1 w7, y_hasS _ hL1 hm1.2.1 hf, y_cell, y_iscall, i_in, c1, c2, y_bad hL1, mCp_e, mC_e, mCv_e, mZ_0, mZ_1, mZ_ifb, if_true, if_false, n10, eq_self, reduceCtorEq, Bool.false_eq_true, Nat.add_zero, Nat.reduceAdd])
    | true =>
      cases c3 : dN 5 v3 with
      | false =>
        exact Agr_ref (v := -2) 0 (by decide) I (by simp (maxDischargeDepth := 40) only [f_X6_gives, f_X6_gives_35, hL, gc_0, gc_1, gc_2, gc_3, gc_4, gc_5, Ly_put, kcf, kca, x_hasW _ ho hL hr w7, x_hasS _ ho hL hr hf, x_cell, x_kind, x_iscall, x_isimage, i_in, c1, c2, c3, x_bad hL, mCp_e, mC_e, mCv_e, mZ_0, mZ_1, mZ_ifb, if_true, if_false, n10, eq_self, reduceCtorEq, Bool.false_eq_true, Nat.add_zero, Nat.reduceAdd]) (fun S1 hL1 hm1 => by simp (maxDischargeDepth := 40) only [f_X7_gives, f_X7_gives_33, f_X7_gives_37, hL1, gc_0, gc_1, gc_2, gc_3, gc_4, gc_5, Ly_put, kcf, kca, y_hasW _ hL1 hm1.2.1 w7, y_hasS _ hL1 hm1.2.1 hf, y_cell, y_iscall, i_in, c1, c2, c3, y_bad hL1, mCp_e, mC_e, mCv_e, mZ_0, mZ_1, mZ_ifb, if_true, if_false, n10, eq_self, reduceCtorEq, Bool.false_eq_true, Nat.add_zero, Nat.reduceAdd])
      | true =>
        obtain ⟨s, hs, rfl⟩ := dN_some c1 (by omega)
        obtain ⟨i, hi, rfl⟩ := dN_some c2 (by omega)
        obtain ⟨d, hd, rfl⟩ := dN_some c3 (by decide)
        exact Agr_r I (r := nI (aG k.h s i d)) (by simp (maxDischargeDepth := 40) only [f_X6_gives, hL, gc_0, gc_1, gc_2, gc_3, gc_4, gc_5, Ly_put, kcf, kca, x_hasW _ ho hL hr w7, x_hasS _ ho hL hr hf, x_cell, x_kind, x_iscall, x_isimage, i_in, c1, c2, c3, x_sTo ho hL hr hv hs hi hd, mCp_e, mC_e, mCv_e, mZ_0, mZ_1, mZ_ifb, if_true, if_false, n10, eq_self, reduceCtorEq, Bool.false_eq_true, Nat.add_zero, Nat.reduceAdd]) (by
          simp (maxDischargeDepth := 40) only [f_X7_gives, hL, gc_0, gc_1, gc_2, gc_3, gc_4, gc_5, Ly_put, kcf, kca, y_hasW _ hL hq w7, y_hasS _ hL hq hf, y_cell, y_iscall, i_in, c1, c2, c3, y_gTo hL hq hv hs hi hd, f_X7_gives_37, mCp_e, mC_e, mCv_e, mZ_0, mZ_1, mZ_ifb, if_true, if_false, n10, eq_self, reduceCtorEq, Bool.false_eq_true, Nat.add_zero, Nat.reduceAdd])
theorem j3 {j : Nat} (h : j < 3) : j = 0 ∨ j = 1 ∨ j = 2 := by omega
theorem litz : ((nI 1 = 0) = False ∧ (nI 2 = 0) = False ∧ (nI 2 = 1) = False ∧ (nI 0 = 0) = True ∧ (nI 1 = 1) = True ∧ (nI 0 = 1) = False) := by decide
theorem o_of {S : mS} (H : Inv S) (v1 v2 : Int32) : Agr (f_X6_of (nI 0) v1 v2) (f_X7_of (nI 83) v1 v2) S := by
  obtain ⟨k, I⟩ := Inv_k H
  have hL := I.1
  have hv : VH k.h := I.2.1.1
  have hr : RH S 2 k.h := I.2.2.1.2.1
  have hm : MK S k := I.2.2.2.1
  have hq : RM S k.h := hm.2.1
  have ho : HO 2 := Or.inl rfl
  have hw := hv.1
  have hf := hv.2.1
  have w7 : k.h.w ≤ 7 := by omega
  cases c1 : dN k.h.w v1 with
  | false =>
    exact Agr_ref (v := -2) 0 (by decide) I (by simp (maxDischargeDepth := 40) only [f_X6_of, f_X6_of_23, hL, gc_0, gc_1, gc_2, gc_3, gc_4, gc_5, Ly_put, kcf, kca, x_hasW _ ho hL hr w7, x_hasS _ ho hL hr hf, x_cell, x_kind, x_iscall, x_isimage, i_in, c1, x_bad hL, mCp_e, mC_e, mCv_e, mZ_0, mZ_1, mZ_ifb, if_true, if_false, n10, eq_self, reduceCtorEq, Bool.false_eq_true, Nat.add_zero, Nat.reduceAdd]) (fun S1 hL1 hm1 => by simp (maxDischargeDepth := 40) only [f_X7_of, f_X7_of_17, hL1, gc_0, gc_1, gc_2, gc_3, gc_4, gc_5, Ly_put, kcf, kca, y_hasW _ hL1 hm1.2.1 w7, y_hasS _ hL1 hm1.2.1 hf, y_cell, y_iscall, i_in, c1, y_bad hL1, mCp_e, mC_e, mCv_e, mZ_0, mZ_1, mZ_ifb, if_true, if_false, n10, eq_self, reduceCtorEq, Bool.false_eq_true, Nat.add_zero, Nat.reduceAdd])
  | true =>
    cases c2 : dN 3 v2 with
    | false =>
      exact Agr_ref (v := -2) 0 (by decide) I (by simp (maxDischargeDepth := 40) only [f_X6_of, f_X6_of_23, hL, gc_0, gc_1, gc_2, gc_3, gc_4, gc_5, Ly_put, kcf, kca, x_hasW _ ho hL hr w7, x_hasS _ ho hL hr hf, x_cell, x_kind, x_iscall, x_isimage, i_in, c1, c2, x_bad hL, mCp_e, mC_e, mCv_e, mZ_0, mZ_1, mZ_ifb, if_true, if_false, n10, eq_self, reduceCtorEq, Bool.false_eq_true, Nat.add_zero, Nat.reduceAdd]) (fun S1 hL1 hm1 => by simp (maxDischargeDepth := 40) only [f_X7_of, f_X7_of_17, hL1, gc_0, gc_1, gc_2, gc_3, gc_4, gc_5, Ly_put, kcf, kca, y_hasW _ hL1 hm1.2.1 w7, y_hasS _ hL1 hm1.2.1 hf, y_cell, y_iscall, i_in, c1, c2, y_bad hL1, mCp_e, mC_e, mCv_e, mZ_0, mZ_1, mZ_ifb, if_true, if_false, n10, eq_self, reduceCtorEq, Bool.false_eq_true, Nat.add_zero, Nat.reduceAdd])
    | true =>
      obtain ⟨i, hi, rfl⟩ := dN_some c1 (by omega)
      obtain ⟨d, hd, rfl⟩ := dN_some c2 (by decide)
      have i3 : i < 3 := by omega
      rcases j3 hd with rfl | rfl | rfl
      · exact Agr_r I (r := nI (k.h.wk i)) (by simp (maxDischargeDepth := 40) only [f_X6_of, hL, gc_0, gc_1, gc_2, gc_3, gc_4, gc_5, Ly_put, kcf, kca, x_hasW _ ho hL hr w7, x_hasS _ ho hL hr hf, x_cell, x_kind, x_iscall, x_isimage, i_in, c1, c2, litz, i3, (hr.2.2.2.1 i hi).1, mCp_e, mC_e, mCv_e, mZ_0, mZ_1, mZ_ifb, if_true, if_false, n10, eq_self, reduceCtorEq, Bool.false_eq_true, Nat.add_zero, Nat.reduceAdd]) (by simp (maxDischargeDepth := 40) only [f_X7_of, f_X7_of_62, hL, gc_0, gc_1, gc_2, gc_3, gc_4, gc_5, Ly_put, kcf, kca, y_hasW _ hL hq w7, y_hasS _ hL hq hf, y_cell, y_iscall, i_in, c1, c2, litz, i3, (hq.2.2.2.1 i hi).1, mCp_e, mC_e, mCv_e, mZ_0, mZ_1, mZ_ifb, if_true, if_false, n10, eq_self, reduceCtorEq, Bool.false_eq_true, Nat.add_zero, Nat.reduceAdd])
      · exact Agr_r I (r := nI (k.h.wc i)) (by simp (maxDischargeDepth := 40) only [f_X6_of, f_X6_of_78, hL, gc_0, gc_1, gc_2, gc_3, gc_4, gc_5, Ly_put, kcf, kca, x_hasW _ ho hL hr w7, x_hasS _ ho hL hr hf, x_cell, x_kind, x_iscall, x_isimage, i_in, c1, c2, litz, i3, (hr.2.2.2.1 i hi).2, mCp_e, mC_e, mCv_e, mZ_0, mZ_1, mZ_ifb, if_true, if_false, n10, eq_self, reduceCtorEq, Bool.false_eq_true, Nat.add_zero, Nat.reduceAdd]) (by simp (maxDischargeDepth := 40) only [f_X7_of, f_X7_of_62, hL, gc_0, gc_1, gc_2, gc_3, gc_4, gc_5, Ly_put, kcf, kca, y_hasW _ hL hq w7, y_hasS _ hL hq hf, y_cell, y_iscall, i_in, c1, c2, litz, i3, (hq.2.2.2.1 i hi).2, mCp_e, mC_e, mCv_e, mZ_0, mZ_1, mZ_ifb, if_true, if_false, n10, eq_self, reduceCtorEq, Bool.false_eq_true, Nat.add_zero, Nat.reduceAdd])
      · exact Agr_r I (r := nI (pR (k.h.wk i) k.h.t)) (by simp (maxDischargeDepth := 40) only [f_X6_of, f_X6_of_78, f_X1_reach, f_X1_reach_25, hL, gc_0, gc_1, gc_2, gc_3, gc_4, gc_5, Ly_put, kcf, kca, x_hasW _ ho hL hr w7, x_hasS _ ho hL hr hf, x_cell, x_kind, x_iscall, x_isimage, i_in, c1, c2, litz, i3, (hr.2.2.2.1 i hi).1, hr.2.2.1, (x_reach (hv.2.2.2.1 i hi).1 hv.2.2.1).1, mCp_e, mC_e, mCv_e, mZ_0, mZ_1, mZ_ifb, if_true, if_false, n10, eq_self, reduceCtorEq, Bool.false_eq_true, Nat.add_zero, Nat.reduceAdd]) (by simp (maxDischargeDepth := 40) only [f_X7_of, f_X7_of_62, hL, gc_0, gc_1, gc_2, gc_3, gc_4, gc_5, Ly_put, kcf, kca, y_hasW _ hL hq w7, y_hasS _ hL hq hf, y_cell, y_iscall, i_in, c1, c2, litz, i3, (hq.2.2.2.1 i hi).1, hq.2.2.1, (x_reach (hv.2.2.2.1 i hi).1 hv.2.2.1).2, mCp_e, mC_e, mCv_e, mZ_0, mZ_1, mZ_ifb, if_true, if_false, n10, eq_self, reduceCtorEq, Bool.false_eq_true, Nat.add_zero, Nat.reduceAdd])
theorem o_about {S : mS} (H : Inv S) (v1 v2 : Int32) : Agr (f_X6_about (nI 0) v1 v2) (f_X7_about (nI 83) v1 v2) S := by
  obtain ⟨k, I⟩ := Inv_k H
  have hL := I.1
  have hv : VH k.h := I.2.1.1
  have hr : RH S 2 k.h := I.2.2.1.2.1
  have hm : MK S k := I.2.2.2.1
  have hq : RM S k.h := hm.2.1
  have ho : HO 2 := Or.inl rfl
  have hw := hv.1
  have hf := hv.2.1
  have w7 : k.h.w ≤ 7 := by omega
  have hF : k.fold < 25 := I.2.1.2.2.1
  have e1 : S.2.1 1 5 = nI k.fold := I.2.2.1.1
  have e2 : S.2.1 83 3 = nI k.fold := hm.1
  cases c1 : dN k.h.f v1 with
  | false =>
    exact Agr_ref (v := -2) 0 (by decide) I (by simp (maxDischargeDepth := 40) only [f_X6_about, f_X6_about_23, hL, gc_0, gc_1, gc_2, gc_3, gc_4, gc_5, Ly_put, kcf, kca, x_hasW _ ho hL hr w7, x_hasS _ ho hL hr hf, x_cell, x_kind, x_iscall, x_isimage, i_in, c1, x_bad hL, mCp_e, mC_e, mCv_e, mZ_0, mZ_1, mZ_ifb, if_true, if_false, n10, eq_self, reduceCtorEq, Bool.false_eq_true, Nat.add_zero, Nat.reduceAdd]) (fun S1 hL1 hm1 => by simp (maxDischargeDepth := 40) only [f_X7_about, f_X7_about_17, hL1, gc_0, gc_1, gc_2, gc_3, gc_4, gc_5, Ly_put, kcf, kca, y_hasW _ hL1 hm1.2.1 w7, y_hasS _ hL1 hm1.2.1 hf, y_cell, y_iscall, i_in, c1, y_bad hL1, mCp_e, mC_e, mCv_e, mZ_0, mZ_1, mZ_ifb, if_true, if_false, n10, eq_self, reduceCtorEq, Bool.false_eq_true, Nat.add_zero, Nat.reduceAdd])
  | true =>
    cases c2 : dN 3 v2 with
    | false =>
      exact Agr_ref (v := -2) 0 (by decide) I (by simp (maxDischargeDepth := 40) only [f_X6_about, f_X6_about_23, hL, gc_0, gc_1, gc_2, gc_3, gc_4, gc_5, Ly_put, kcf, kca, x_hasW _ ho hL hr w7, x_hasS _ ho hL hr hf, x_cell, x_kind, x_iscall, x_isimage, i_in, c1, c2, x_bad hL, mCp_e, mC_e, mCv_e, mZ_0, mZ_1, mZ_ifb, if_true, if_false, n10, eq_self, reduceCtorEq, Bool.false_eq_true, Nat.add_zero, Nat.reduceAdd]) (fun S1 hL1 hm1 => by simp (maxDischargeDepth := 40) only [f_X7_about, f_X7_about_17, hL1, gc_0, gc_1, gc_2, gc_3, gc_4, gc_5, Ly_put, kcf, kca, y_hasW _ hL1 hm1.2.1 w7, y_hasS _ hL1 hm1.2.1 hf, y_cell, y_iscall, i_in, c1, c2, y_bad hL1, mCp_e, mC_e, mCv_e, mZ_0, mZ_1, mZ_ifb, if_true, if_false, n10, eq_self, reduceCtorEq, Bool.false_eq_true, Nat.add_zero, Nat.reduceAdd])
    | true =>
      obtain ⟨i, hi, rfl⟩ := dN_some c1 (by omega)
      obtain ⟨d, hd, rfl⟩ := dN_some c2 (by decide)
      have i7 : i < 7 := by omega
      have kk := hv.2.2.2.2 i hi
      rcases j3 hd with rfl | rfl | rfl
      · exact Agr_r I (r := nI (k.h.sk i)) (by simp (maxDischargeDepth := 40) only [f_X6_about, hL, gc_0, gc_1, gc_2, gc_3, gc_4, gc_5, Ly_put, kcf, kca, x_hasW _ ho hL hr w7, x_hasS _ ho hL hr hf, x_cell, x_kind, x_iscall, x_isimage, i_in, c1, c2, litz, i7, (hr.2.2.2.2 i hi).1, mCp_e, mC_e, mCv_e, mZ_0, mZ_1, mZ_ifb, if_true, if_false, n10, eq_self, reduceCtorEq, Bool.false_eq_true, Nat.add_zero, Nat.reduceAdd]) (by simp (maxDischargeDepth := 40) only [f_X7_about, f_X7_about_62, hL, gc_0, gc_1, gc_2, gc_3, gc_4, gc_5, Ly_put, kcf, kca, y_hasW _ hL hq w7, y_hasS _ hL hq hf, y_cell, y_iscall, i_in, c1, c2, litz, i7, (hq.2.2.2.2 i hi).1, mCp_e, mC_e, mCv_e, mZ_0, mZ_1, mZ_ifb, if_true, if_false, n10, eq_self, reduceCtorEq, Bool.false_eq_true, Nat.add_zero, Nat.reduceAdd])
      · exact Agr_r I (r := nI (k.h.sc i)) (by simp (maxDischargeDepth := 40) only [f_X6_about, f_X6_about_80, hL, gc_0, gc_1, gc_2, gc_3, gc_4, gc_5, Ly_put, kcf, kca, x_hasW _ ho hL hr w7, x_hasS _ ho hL hr hf, x_cell, x_kind, x_iscall, x_isimage, i_in, c1, c2, litz, i7, (hr.2.2.2.2 i hi).2, mCp_e, mC_e, mCv_e, mZ_0, mZ_1, mZ_ifb, if_true, if_false, n10, eq_self, reduceCtorEq, Bool.false_eq_true, Nat.add_zero, Nat.reduceAdd]) (by simp (maxDischargeDepth := 40) only [f_X7_about, f_X7_about_62, hL, gc_0, gc_1, gc_2, gc_3, gc_4, gc_5, Ly_put, kcf, kca, y_hasW _ hL hq w7, y_hasS _ hL hq hf, y_cell, y_iscall, i_in, c1, c2, litz, i7, (hq.2.2.2.2 i hi).2, mCp_e, mC_e, mCv_e, mZ_0, mZ_1, mZ_ifb, if_true, if_false, n10, eq_self, reduceCtorEq, Bool.false_eq_true, Nat.add_zero, Nat.reduceAdd])
      · exact Agr_r I (r := nI (pFar (k.h.sc i) k.fold)) (by simp (maxDischargeDepth := 40) only [f_X6_about, f_X6_about_80, hL, gc_0, gc_1, gc_2, gc_3, gc_4, gc_5, Ly_put, kcf, kca, x_hasW _ ho hL hr w7, x_hasS _ ho hL hr hf, x_cell, x_kind, x_iscall, x_isimage, i_in, c1, c2, litz, i7, (hr.2.2.2.2 i hi).2, e1, (x_far _ kk.2 _ hF).1, mCp_e, mC_e, mCv_e, mZ_0, mZ_1, mZ_ifb, if_true, if_false, n10, eq_self, reduceCtorEq, Bool.false_eq_true, Nat.add_zero, Nat.reduceAdd]) (by simp (maxDischargeDepth := 40) only [f_X7_about, f_X7_about_62, hL, gc_0, gc_1, gc_2, gc_3, gc_4, gc_5, Ly_put, kcf, kca, y_hasW _ hL hq w7, y_hasS _ hL hq hf, y_cell, y_iscall, i_in, c1, c2, litz, i7, (hq.2.2.2.2 i hi).2, e2, (x_far _ kk.2 _ hF).2.1, mCp_e, mC_e, mCv_e, mZ_0, mZ_1, mZ_ifb, if_true, if_false, n10, eq_self, reduceCtorEq, Bool.false_eq_true, Nat.add_zero, Nat.reduceAdd])
