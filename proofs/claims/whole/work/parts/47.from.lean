theorem Agr_k2 {S : mS} {k k' : KS} {e1 e2 : mS → Option (Int32 × mS)} {r : Int32} (H : IK S k) (hv : VK k') (c : ∃ S1, e1 S = some (r, S1) ∧ Ly S1 ∧ CK S1 1 k' ∧ TC S S1) (m : ∀ S1, Ly S1 → MK S1 k → (∀ q, 83 ≤ q → S1.2.1 q = S.2.1 q) → ∃ S2, e2 S1 = some (r, S2) ∧ Ly S2 ∧ MK S2 k' ∧ TM S1 S2) : Agr e1 e2 S := by
  obtain ⟨hL, -, -, hm, hR⟩ := H
  obtain ⟨S1, c1, c2, c3, c4⟩ := c
  obtain ⟨S2, m1, m2, m3, m4⟩ := m S1 c2 (MK_TC c4 hm) (fun q hq => c4.2.1 q (by omega))
  exact ⟨r, S1, S2, c1, c2.1, m1, m2, ⟨k', hv, CK_TM m4 c3, m3⟩, Rest_TM m4 (Rest_TC c4 hR)⟩
theorem o_from0 {S : mS} (H : Inv S) : Agr (f_X6_from (nI 0) (nI 0)) (f_X7_from (nI 83) (nI 0)) S := by
  obtain ⟨k, I⟩ := Inv_k H
  have hL := I.1
  have hv : VH k.h := I.2.1.1
  have hr : RH S 2 k.h := I.2.2.1.2.1
  have hm : MK S k := I.2.2.2.1
  have hq : RM S k.h := hm.2.1
  have ho : HO 2 := Or.inl rfl
  have hw := hv.1
  have hf := hv.2.1
  have w7 : k.h.w ≤ 7 := by omega
  have c1 : dN 2 (nI 0) = true := dN_nI (by decide) (by decide)
  have e170 : 170 * nI 0 = nI 0 := nI_mul 170 0
  have I' := I
  obtain ⟨-, -, -, im, -⟩ := I'.2.2.2.2
  rcases im.1 with ⟨h58, h99⟩ | ⟨h58, h99, k2, v2, ck2, mi2⟩
  · exact Agr_ref2 (v := -3) 1 (by decide) I (by simp (maxDischargeDepth := 40) only [f_X6_from, x_isimage, c1, hL, gc_0, gc_1, gc_2, gc_3, gc_4, gc_5, Ly_put, kcf, kca, h58, litz, x_no hL, show (0 : Nat) < 2 by decide, show (1 : Nat) < 2 by decide, mCp_e, mC_e, mCv_e, mZ_0, mZ_1, mZ_ifb, if_true, if_false, n10, eq_self, reduceCtorEq, Bool.false_eq_true, Nat.add_zero, Nat.reduceAdd]) (fun S1 hL1 hm1 hq1 _ => by
      have h99' : S1.2.1 99 0 = nI 0 := by rw [hq1 99 (by decide)]; exact h99
      simp (maxDischargeDepth := 40) only [f_X7_from, i_in, c1, hL1, gc_0, gc_1, gc_2, gc_3, gc_4, gc_5, Ly_put, kcf, kca, h99', litz, y_no hL1, show (0 : Nat) < 2 by decide, show (1 : Nat) < 2 by decide, mCp_e, mC_e, mCv_e, mZ_0, mZ_1, mZ_ifb, if_true, if_false, n10, eq_self, reduceCtorEq, Bool.false_eq_true, Nat.add_zero, Nat.reduceAdd])
  · obtain ⟨E, e1, e2, e3, e4⟩ := x_sc_1_30 hL v2 ck2
    refine Agr_k2 I (k' := k2) (r := 1) v2 ⟨E, by simp (maxDischargeDepth := 40) only [f_X6_from, x_isimage, c1, hL, gc_0, gc_1, gc_2, gc_3, gc_4, gc_5, Ly_put, kcf, kca, h58, litz, (c29 hL).1, (c29 hL).2, e1, show (0 : Nat) < 2 by decide, show (1 : Nat) < 2 by decide, mCp_e, mC_e, mCv_e, mZ_0, mZ_1, mZ_ifb, if_true, if_false, n10, eq_self, reduceCtorEq, Bool.false_eq_true, Nat.add_zero, Nat.reduceAdd], e2, e3, TC_fr e4 (by omega)⟩ (fun S1 hL1 hm1 hq1 => ?_)
    have h99' : S1.2.1 99 0 = nI 1 := by rw [hq1 99 (by decide)]; exact h99
    have mi3 : MI S1 98 0 k2 := MI_sa (hq1 98 (by decide)) mi2
    obtain ⟨W, w1, w2, w3, w4, w5, w6⟩ := y_takeAll (a := 98) (t := 0) hL1 v2 mi3 rfl (Or.inr rfl) (by decide)
    exact ⟨W, by simp (maxDischargeDepth := 40) only [f_X7_from, i_in, c1, hL1, gc_0, gc_1, gc_2, gc_3, gc_4, gc_5, Ly_put, kcf, kca, h99', litz, e170, w1, show (0 : Nat) < 2 by decide, show (1 : Nat) < 2 by decide, mCp_e, mC_e, mCv_e, mZ_0, mZ_1, mZ_ifb, if_true, if_false, n10, eq_self, reduceCtorEq, Bool.false_eq_true, Nat.add_zero, Nat.reduceAdd], w2, w3, w2.1.trans hL1.1.symm, fun q hq => w4 q (by omega), w5 16 (by decide) (by decide), fun j _ => by rw [w6]⟩
theorem o_from1 {S : mS} (H : Inv S) : Agr (f_X6_from (nI 0) (nI 1)) (f_X7_from (nI 83) (nI 1)) S := by
  obtain ⟨k, I⟩ := Inv_k H
  have hL := I.1
  have hv : VH k.h := I.2.1.1
  have hr : RH S 2 k.h := I.2.2.1.2.1
  have hm : MK S k := I.2.2.2.1
  have hq : RM S k.h := hm.2.1
  have ho : HO 2 := Or.inl rfl
  have hw := hv.1
  have hf := hv.2.1
  have w7 : k.h.w ≤ 7 := by omega
  have c1 : dN 2 (nI 1) = true := dN_nI (by decide) (by decide)
  have e170 : 170 * nI 1 = nI 170 := nI_mul 170 1
  have I' := I
  obtain ⟨-, -, -, im, -⟩ := I'.2.2.2.2
  rcases im.2 with ⟨h58, h99⟩ | ⟨h58, h99, k2, v2, ck2, mi2⟩
  · exact Agr_ref2 (v := -3) 1 (by decide) I (by simp (maxDischargeDepth := 40) only [f_X6_from, x_isimage, c1, hL, gc_0, gc_1, gc_2, gc_3, gc_4, gc_5, Ly_put, kcf, kca, h58, litz, x_no hL, show (0 : Nat) < 2 by decide, show (1 : Nat) < 2 by decide, mCp_e, mC_e, mCv_e, mZ_0, mZ_1, mZ_ifb, if_true, if_false, n10, eq_self, reduceCtorEq, Bool.false_eq_true, Nat.add_zero, Nat.reduceAdd]) (fun S1 hL1 hm1 hq1 _ => by
      have h99' : S1.2.1 99 1 = nI 0 := by rw [hq1 99 (by decide)]; exact h99
      simp (maxDischargeDepth := 40) only [f_X7_from, i_in, c1, hL1, gc_0, gc_1, gc_2, gc_3, gc_4, gc_5, Ly_put, kcf, kca, h99', litz, y_no hL1, show (0 : Nat) < 2 by decide, show (1 : Nat) < 2 by decide, mCp_e, mC_e, mCv_e, mZ_0, mZ_1, mZ_ifb, if_true, if_false, n10, eq_self, reduceCtorEq, Bool.false_eq_true, Nat.add_zero, Nat.reduceAdd])
  · obtain ⟨E, e1, e2, e3, e4⟩ := x_sc_1_44 hL v2 ck2
    refine Agr_k2 I (k' := k2) (r := 1) v2 ⟨E, by simp (maxDischargeDepth := 40) only [f_X6_from, x_isimage, c1, hL, gc_0, gc_1, gc_2, gc_3, gc_4, gc_5, Ly_put, kcf, kca, h58, litz, (c29 hL).1, (c29 hL).2, e1, show (0 : Nat) < 2 by decide, show (1 : Nat) < 2 by decide, mCp_e, mC_e, mCv_e, mZ_0, mZ_1, mZ_ifb, if_true, if_false, n10, eq_self, reduceCtorEq, Bool.false_eq_true, Nat.add_zero, Nat.reduceAdd], e2, e3, TC_fr e4 (by omega)⟩ (fun S1 hL1 hm1 hq1 => ?_)
    have h99' : S1.2.1 99 1 = nI 1 := by rw [hq1 99 (by decide)]; exact h99
    have mi3 : MI S1 98 170 k2 := MI_sa (hq1 98 (by decide)) mi2
    obtain ⟨W, w1, w2, w3, w4, w5, w6⟩ := y_takeAll (a := 98) (t := 170) hL1 v2 mi3 rfl (Or.inr rfl) (by decide)
    exact ⟨W, by simp (maxDischargeDepth := 40) only [f_X7_from, i_in, c1, hL1, gc_0, gc_1, gc_2, gc_3, gc_4, gc_5, Ly_put, kcf, kca, h99', litz, e170, w1, show (0 : Nat) < 2 by decide, show (1 : Nat) < 2 by decide, mCp_e, mC_e, mCv_e, mZ_0, mZ_1, mZ_ifb, if_true, if_false, n10, eq_self, reduceCtorEq, Bool.false_eq_true, Nat.add_zero, Nat.reduceAdd], w2, w3, w2.1.trans hL1.1.symm, fun q hq => w4 q (by omega), w5 16 (by decide) (by decide), fun j _ => by rw [w6]⟩
theorem o_from {S : mS} (H : Inv S) (v1 : Int32) : Agr (f_X6_from (nI 0) v1) (f_X7_from (nI 83) v1) S := by
  obtain ⟨k, I⟩ := Inv_k H
  have hL := I.1
  have hv : VH k.h := I.2.1.1
  have hr : RH S 2 k.h := I.2.2.1.2.1
  have hm : MK S k := I.2.2.2.1
  have hq : RM S k.h := hm.2.1
  have ho : HO 2 := Or.inl rfl
  have hw := hv.1
  have hf := hv.2.1
  have w7 : k.h.w ≤ 7 := by omega
  cases c1 : dN 2 v1 with
  | false =>
    exact Agr_ref (v := -2) 0 (by decide) I (by simp (maxDischargeDepth := 40) only [f_X6_from, hL, gc_0, gc_1, gc_2, gc_3, gc_4, gc_5, Ly_put, kcf, kca, x_hasW _ ho hL hr w7, x_hasS _ ho hL hr hf, x_cell, x_kind, x_iscall, x_isimage, i_in, c1, x_bad hL, mCp_e, mC_e, mCv_e, mZ_0, mZ_1, mZ_ifb, if_true, if_false, n10, eq_self, reduceCtorEq, Bool.false_eq_true, Nat.add_zero, Nat.reduceAdd]) (fun S1 hL1 hm1 => by simp (maxDischargeDepth := 40) only [f_X7_from, hL1, gc_0, gc_1, gc_2, gc_3, gc_4, gc_5, Ly_put, kcf, kca, y_hasW _ hL1 hm1.2.1 w7, y_hasS _ hL1 hm1.2.1 hf, y_cell, y_iscall, i_in, c1, y_bad hL1, mCp_e, mC_e, mCv_e, mZ_0, mZ_1, mZ_ifb, if_true, if_false, n10, eq_self, reduceCtorEq, Bool.false_eq_true, Nat.add_zero, Nat.reduceAdd])
  | true =>
    obtain ⟨i, hi, rfl⟩ := dN_some c1 (by decide)
    rcases (show i = 0 ∨ i = 1 by omega) with rfl | rfl
    · exact o_from0 H
    · exact o_from1 H
