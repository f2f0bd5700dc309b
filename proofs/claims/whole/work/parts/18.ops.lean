theorem MK_f {S S1 : mS} {k : KS} (f : ∀ j, j ≠ 16 → j ≠ 17 → j ≠ 18 → S1.2.1 83 j = S.2.1 83 j) (g : ∀ q, 85 ≤ q → q ≤ 94 → q ≠ 92 → q ≠ 93 → S1.2.1 q = S.2.1 q) (c : MK S k) : MK S1 k := by
  obtain ⟨c1, ⟨a1, a2, a3, a4, a5⟩, c3, c4, c5, c6⟩ := c
  refine ⟨(f 3 (by decide) (by decide) (by decide)).trans c1, ⟨(f 1 (by decide) (by decide) (by decide)).trans a1, (f 2 (by decide) (by decide) (by decide)).trans a2, (f 4 (by decide) (by decide) (by decide)).trans a3, fun i hi => ?_, fun i hi => ?_⟩, RR_f (f _ (by decide) (by decide) (by decide)) (g _ (by decide) (by decide) (by decide) (by decide)) c3, RR_f (f _ (by decide) (by decide) (by decide)) (g _ (by decide) (by decide) (by decide) (by decide)) c4, RR_f (f _ (by decide) (by decide) (by decide)) (g _ (by decide) (by decide) (by decide) (by decide)) c5, RP_f (f _ (by decide) (by decide) (by decide)) (g _ (by decide) (by decide) (by decide) (by decide)) c6⟩
  · rw [g 85 (by decide) (by decide) (by decide) (by decide), g 86 (by decide) (by decide) (by decide) (by decide)]
    exact a4 i hi
  · rw [g 87 (by decide) (by decide) (by decide) (by decide), g 88 (by decide) (by decide) (by decide) (by decide)]
    exact a5 i hi
theorem Agr_ref2 {S : mS} {k : KS} {e1 e2 : mS → Option (Int32 × mS)} {v : Int32} (z : Nat) (hz : z < 3) (H : IK S k) (c : e1 S = some (v, mPut S 0 (14 + z) (S.2.1 0 (14 + z) + 1))) (m : ∀ S1, Ly S1 → MK S1 k → (∀ q, q ≠ 0 → S1.2.1 q = S.2.1 q) → S1.2.2 = S.2.2 → e2 S1 = some (v, mPut S1 84 z (S1.2.1 84 z + 1))) : Agr e1 e2 S := by
  have hi : Inv S := ⟨H.1, ⟨k, H.2.1, H.2.2.1, H.2.2.2.1⟩, H.2.2.2.2⟩
  have hL1 : Ly (mPut S 0 (14 + z) (S.2.1 0 (14 + z) + 1)) := Ly_put H.1 (by rcases (show z = 0 ∨ z = 1 ∨ z = 2 by omega) with rfl | rfl | rfl <;> decide)
  exact ⟨v, _, _, c, hL1.1, m _ hL1 (MK_sa (fun q a b => mPut_r _ _ _ _ _ (by omega)) H.2.2.2.1) (fun q hq => mPut_r _ _ _ _ _ hq) rfl, ref_inv hz hi⟩
/-! the text -/
theorem byt : ∀ c, c < 128 → vp_nar .byte (nI c).toInt8.toInt32 = nI c := by decide +kernel
theorem o_type {S : mS} (H : Inv S) (v1 : Int32) : Agr (f_X6_type (nI 0) v1) (f_X7_type (nI 83) v1) S := by
  obtain ⟨k, I⟩ := Inv_k H
  have hL := I.1
  have hv : VH k.h := I.2.1.1
  have hr : RH S 2 k.h := I.2.2.1.2.1
  have hm : MK S k := I.2.2.2.1
  have hq : RM S k.h := hm.2.1
  have ho : HO 2 := Or.inl rfl
  have hw := hv.1
  have hf := hv.2.1
  have w7 : k.h.w ≤ 7 := by omega
  have I' := I
  obtain ⟨⟨n, b, t1, t2, t3, t4, t5⟩, hf', hc', hi', hy'⟩ := I'.2.2.2.2
  cases c1 : dN 128 v1 with
  | false =>
    exact Agr_ref (v := -2) 0 (by decide) I (by simp (maxDischargeDepth := 40) only [f_X6_type, hL, gc_0, gc_1, gc_2, gc_3, gc_4, gc_5, Ly_put, kcf, kca, x_hasW _ ho hL hr w7, x_hasS _ ho hL hr hf, x_cell, x_kind, x_iscall, x_isimage, i_in, c1, x_bad hL, mCp_e, mC_e, mCv_e, mZ_0, mZ_1, mZ_ifb, if_true, if_false, n10, eq_self, reduceCtorEq, Bool.false_eq_true, Nat.add_zero, Nat.reduceAdd]) (fun S1 hL1 hm1 => by simp (maxDischargeDepth := 40) only [f_X7_type, hL1, gc_0, gc_1, gc_2, gc_3, gc_4, gc_5, Ly_put, kcf, kca, y_hasW _ hL1 hm1.2.1 w7, y_hasS _ hL1 hm1.2.1 hf, y_cell, y_iscall, i_in, c1, y_bad hL1, mCp_e, mC_e, mCv_e, mZ_0, mZ_1, mZ_ifb, if_true, if_false, n10, eq_self, reduceCtorEq, Bool.false_eq_true, Nat.add_zero, Nat.reduceAdd])
  | true =>
    obtain ⟨c, hc, rfl⟩ := dN_some c1 (by decide)
    have q1 : (nI n < 150) = (n < 150) := lt_i (b := 150) (by omega) (by decide)
    have q2 : (nI n = 150) = (n = 150) := eq_i (b := 150) (by omega) (by decide)
    have q3 : (150 ≤ nI n) = (150 ≤ n) := le_i (a := 150) (by decide) (by omega)
    by_cases c3 : n < 150
    · have c4 : (n = 150) = False := eq_false (by omega)
      have c5 : (150 ≤ n) = False := eq_false (by omega)
      have hL1 : Ly (mPut (mPut S 60 n (nI c)) 59 1 (nI (n + 1))) := by simp (maxDischargeDepth := 40) only [hL, Ly_put, kcf, kca]
      have hL2 : Ly (mPut (mPut (mPut (mPut S 60 n (nI c)) 59 1 (nI (n + 1))) 92 n (nI c)) 83 16 (nI (n + 1))) := by simp (maxDischargeDepth := 40) only [hL, Ly_put, kcf, kca]
      have fr : ∀ q, q ≠ 60 → q ≠ 59 → q ≠ 92 → q ≠ 83 → (mPut (mPut (mPut (mPut S 60 n (nI c)) 59 1 (nI (n + 1))) 92 n (nI c)) 83 16 (nI (n + 1))).2.1 q = S.2.1 q := fun q a1 a2 a3 a4 => by rw [mPut_r _ _ _ _ _ a4, mPut_r _ _ _ _ _ a3, mPut_r _ _ _ _ _ a2, mPut_r _ _ _ _ _ a1]
      have e16 : (mPut (mPut S 60 n (nI c)) 59 1 (nI (n + 1))).2.1 83 16 = nI n := by simp (maxDischargeDepth := 40) only [mPut_g, Nat.reduceEqDiff, and_true, true_and, and_false, false_and, and_self, mCp_e, mC_e, mCv_e, mZ_0, mZ_1, mZ_ifb, if_true, if_false, n10, eq_self, reduceCtorEq, Bool.false_eq_true, Nat.add_zero, Nat.reduceAdd]; exact t4
      refine ⟨nI (n + 1), _, _, ?_, hL1.1, ?_, hL2, ⟨k, I.2.1, CK_sa (fun q a b => fr q (by omega) (by omega) (by omega) (by omega)) I.2.2.1, MK_f (fun j n16 _ _ => by simp (maxDischargeDepth := 40) only [mPut_g, Nat.reduceEqDiff, and_true, true_and, and_false, false_and, and_self, n16, if_false]) (fun q a1 a2 a3 a4 => fr q (by omega) (by omega) (by omega) (by omega)) hm⟩, ?_⟩
      · simp (maxDischargeDepth := 40) only [f_X6_type, f_X4_add, f_X4_add_31, hL, gc_0, gc_1, gc_2, gc_3, gc_4, gc_5, Ly_put, kcf, kca, x_hasW _ ho hL hr w7, x_hasS _ ho hL hr hf, x_cell, x_kind, x_iscall, x_isimage, i_in, c1, c3, t3, q1, q3, c5, byt _ hc, nI_1, mPut_g, Nat.reduceEqDiff, and_true, true_and, and_false, false_and, and_self, mCp_e, mC_e, mCv_e, mZ_0, mZ_1, mZ_ifb, if_true, if_false, n10, eq_self, reduceCtorEq, Bool.false_eq_true, Nat.add_zero, Nat.reduceAdd]
      · have e16' : ∀ v, (mPut (mPut (mPut S 60 n (nI c)) 59 1 (nI (n + 1))) 92 n v).2.1 83 16 = nI n := fun v => by simp (maxDischargeDepth := 40) only [mPut_g, Nat.reduceEqDiff, and_true, true_and, and_false, false_and, and_self, mCp_e, mC_e, mCv_e, mZ_0, mZ_1, mZ_ifb, if_true, if_false, n10, eq_self, reduceCtorEq, Bool.false_eq_true, Nat.add_zero, Nat.reduceAdd]; exact t4
        simp (maxDischargeDepth := 40) only [f_X7_type, hL1, gc_0, gc_1, gc_2, gc_3, gc_4, gc_5, Ly_put, kcf, kca, i_in, c1, c3, e16, e16', q2, c4, nI_1, mCp_e, mC_e, mCv_e, mZ_0, mZ_1, mZ_ifb, if_true, if_false, n10, eq_self, reduceCtorEq, Bool.false_eq_true, Nat.add_zero, Nat.reduceAdd]
        simp (maxDischargeDepth := 40) only [mPut_g, Nat.reduceEqDiff, and_true, true_and, and_false, false_and, and_self, mCp_e, mC_e, mCv_e, mZ_0, mZ_1, mZ_ifb, if_true, if_false, n10, eq_self, reduceCtorEq, Bool.false_eq_true, Nat.add_zero, Nat.reduceAdd]
      · refine ⟨⟨n + 1, fun j => if j = n then c else b j, by omega, fun j hj => ?_, by simp (maxDischargeDepth := 40) only [mPut_g, Nat.reduceEqDiff, and_true, true_and, and_false, false_and, and_self, mCp_e, mC_e, mCv_e, mZ_0, mZ_1, mZ_ifb, if_true, if_false, n10, eq_self, reduceCtorEq, Bool.false_eq_true, Nat.add_zero, Nat.reduceAdd], by simp (maxDischargeDepth := 40) only [mPut_g, Nat.reduceEqDiff, and_true, true_and, and_false, false_and, and_self, mCp_e, mC_e, mCv_e, mZ_0, mZ_1, mZ_ifb, if_true, if_false, n10, eq_self, reduceCtorEq, Bool.false_eq_true, Nat.add_zero, Nat.reduceAdd], fun j hj => ⟨?_, ?_⟩⟩, ⟨?_, ?_⟩, ⟨?_, ?_, ?_⟩, ⟨IM_sa (by decide) (fun q a b => fr q (by omega) (by omega) (by omega) (by omega)) (fr _ (by decide) (by decide) (by decide) (by decide)) (fr _ (by decide) (by decide) (by decide) (by decide)) hi'.1, IM_sa (by decide) (fun q a b => fr q (by omega) (by omega) (by omega) (by omega)) (fr _ (by decide) (by decide) (by decide) (by decide)) (fr _ (by decide) (by decide) (by decide) (by decide)) hi'.2⟩, WY_sa (by rw [fr _ (by decide) (by decide) (by decide) (by decide)]) (fr _ (by decide) (by decide) (by decide) (by decide)) hy'⟩
        · show (if j = n then c else b j) < 128
          split
          · exact hc
          · exact t2 j (by omega)
        · refine ifk (fun e => ?_) (fun e => ?_)
          · simp (maxDischargeDepth := 40) only [mPut_g, Nat.reduceEqDiff, and_true, true_and, and_false, false_and, and_self, mCp_e, mC_e, mCv_e, mZ_0, mZ_1, mZ_ifb, if_true, if_false, n10, eq_self, reduceCtorEq, Bool.false_eq_true, Nat.add_zero, Nat.reduceAdd, e]
          · simp (maxDischargeDepth := 40) only [mPut_g, Nat.reduceEqDiff, and_true, true_and, and_false, false_and, and_self, mCp_e, mC_e, mCv_e, mZ_0, mZ_1, mZ_ifb, if_true, if_false, n10, eq_self, reduceCtorEq, Bool.false_eq_true, Nat.add_zero, Nat.reduceAdd, e]
            exact (t5 j (by omega)).1
        · refine ifk (fun e => ?_) (fun e => ?_)
          · simp (maxDischargeDepth := 40) only [mPut_g, Nat.reduceEqDiff, and_true, true_and, and_false, false_and, and_self, mCp_e, mC_e, mCv_e, mZ_0, mZ_1, mZ_ifb, if_true, if_false, n10, eq_self, reduceCtorEq, Bool.false_eq_true, Nat.add_zero, Nat.reduceAdd, e]
          · simp (maxDischargeDepth := 40) only [mPut_g, Nat.reduceEqDiff, and_true, true_and, and_false, false_and, and_self, mCp_e, mC_e, mCv_e, mZ_0, mZ_1, mZ_ifb, if_true, if_false, n10, eq_self, reduceCtorEq, Bool.false_eq_true, Nat.add_zero, Nat.reduceAdd, e]
            exact (t5 j (by omega)).2
        · rw [fr _ (by decide) (by decide) (by decide) (by decide)]
          exact hf'.1
        · rw [fr _ (by decide) (by decide) (by decide) (by decide)]
          exact hf'.2
        · rw [fr _ (by decide) (by decide) (by decide) (by decide), fr 84 (by decide) (by decide) (by decide) (by decide)]
          exact hc'.1
        · rw [fr _ (by decide) (by decide) (by decide) (by decide), fr 84 (by decide) (by decide) (by decide) (by decide)]
          exact hc'.2.1
        · rw [fr _ (by decide) (by decide) (by decide) (by decide), fr 84 (by decide) (by decide) (by decide) (by decide)]
          exact hc'.2.2
    · have c4 : (n = 150) = True := eq_true (by omega)
      exact Agr_ref2 (v := -4) 2 (by decide) I (by simp (maxDischargeDepth := 40) only [f_X6_type, hL, gc_0, gc_1, gc_2, gc_3, gc_4, gc_5, Ly_put, kcf, kca, x_hasW _ ho hL hr w7, x_hasS _ ho hL hr hf, x_cell, x_kind, x_iscall, x_isimage, i_in, c1, t3, q1, c3, x_full hL, mCp_e, mC_e, mCv_e, mZ_0, mZ_1, mZ_ifb, if_true, if_false, n10, eq_self, reduceCtorEq, Bool.false_eq_true, Nat.add_zero, Nat.reduceAdd]) (fun S1 hL1 hm1 hq1 _ => by simp (maxDischargeDepth := 40) only [f_X7_type, hL1, gc_0, gc_1, gc_2, gc_3, gc_4, gc_5, Ly_put, kcf, kca, i_in, c1, c4, hq1 83 (by decide), t4, q2, y_full hL1, mCp_e, mC_e, mCv_e, mZ_0, mZ_1, mZ_ifb, if_true, if_false, n10, eq_self, reduceCtorEq, Bool.false_eq_true, Nat.add_zero, Nat.reduceAdd])
theorem o_clear {S : mS} (H : Inv S) : Agr (f_X6_clear (nI 0)) (f_X7_clear (nI 83)) S := by
  obtain ⟨k, I⟩ := Inv_k H
  have hL := I.1
  have hv : VH k.h := I.2.1.1
  have hr : RH S 2 k.h := I.2.2.1.2.1
  have hm : MK S k := I.2.2.2.1
  have hq : RM S k.h := hm.2.1
  have ho : HO 2 := Or.inl rfl
  have hw := hv.1
  have hf := hv.2.1
  have w7 : k.h.w ≤ 7 := by omega
  have I' := I
  obtain ⟨⟨n, b, t1, t2, t3, t4, t5⟩, hf', hc', hi', hy'⟩ := I'.2.2.2.2
  have hL1 : Ly (mPut S 59 1 0) := by simp (maxDischargeDepth := 40) only [hL, Ly_put, kcf, kca]
  have hL2 : Ly (mPut (mPut S 59 1 0) 83 16 0) := by simp (maxDischargeDepth := 40) only [hL, Ly_put, kcf, kca]
  have fr : ∀ q, q ≠ 59 → q ≠ 83 → (mPut (mPut S 59 1 0) 83 16 0).2.1 q = S.2.1 q := fun q a1 a2 => by rw [mPut_r _ _ _ _ _ a2, mPut_r _ _ _ _ _ a1]
  have e16 : (mPut S 59 1 0).2.1 83 16 = nI n := by simp (maxDischargeDepth := 40) only [mPut_g, Nat.reduceEqDiff, and_true, true_and, and_false, false_and, and_self, mCp_e, mC_e, mCv_e, mZ_0, mZ_1, mZ_ifb, if_true, if_false, n10, eq_self, reduceCtorEq, Bool.false_eq_true, Nat.add_zero, Nat.reduceAdd]; exact t4
  refine ⟨nI n, _, _, ?_, hL1.1, ?_, hL2, ⟨k, I.2.1, CK_sa (fun q a b => fr q (by omega) (by omega)) I.2.2.1, MK_f (fun j n16 _ _ => by simp (maxDischargeDepth := 40) only [mPut_g, Nat.reduceEqDiff, and_true, true_and, and_false, false_and, and_self, n16, if_false]) (fun q a1 a2 a3 a4 => fr q (by omega) (by omega)) hm⟩, ?_⟩
  · simp (maxDischargeDepth := 40) only [f_X6_clear, hL, gc_0, gc_1, gc_2, gc_3, gc_4, gc_5, Ly_put, kcf, kca, t3, mCp_e, mC_e, mCv_e, mZ_0, mZ_1, mZ_ifb, if_true, if_false, n10, eq_self, reduceCtorEq, Bool.false_eq_true, Nat.add_zero, Nat.reduceAdd]
  · simp (maxDischargeDepth := 40) only [f_X7_clear, hL1, gc_0, gc_1, gc_2, gc_3, gc_4, gc_5, Ly_put, kcf, kca, e16, mCp_e, mC_e, mCv_e, mZ_0, mZ_1, mZ_ifb, if_true, if_false, n10, eq_self, reduceCtorEq, Bool.false_eq_true, Nat.add_zero, Nat.reduceAdd]
  · refine ⟨⟨0, fun _ => 0, by decide, fun j hj => absurd hj (Nat.not_lt_zero j), by simp (maxDischargeDepth := 40) only [mPut_g, Nat.reduceEqDiff, and_true, true_and, and_false, false_and, and_self, mCp_e, mC_e, mCv_e, mZ_0, mZ_1, mZ_ifb, if_true, if_false, n10, eq_self, reduceCtorEq, Bool.false_eq_true, Nat.add_zero, Nat.reduceAdd]; rfl, by simp (maxDischargeDepth := 40) only [mPut_g, Nat.reduceEqDiff, and_true, true_and, and_false, false_and, and_self, mCp_e, mC_e, mCv_e, mZ_0, mZ_1, mZ_ifb, if_true, if_false, n10, eq_self, reduceCtorEq, Bool.false_eq_true, Nat.add_zero, Nat.reduceAdd]; rfl, fun j hj => absurd hj (Nat.not_lt_zero j)⟩, ⟨?_, ?_⟩, ⟨?_, ?_, ?_⟩, ⟨IM_sa (by decide) (fun q a b => fr q (by omega) (by omega)) (fr _ (by decide) (by decide)) (fr _ (by decide) (by decide)) hi'.1, IM_sa (by decide) (fun q a b => fr q (by omega) (by omega)) (fr _ (by decide) (by decide)) (fr _ (by decide) (by decide)) hi'.2⟩, WY_sa (by rw [fr _ (by decide) (by decide)]) (fr _ (by decide) (by decide)) hy'⟩
    · rw [fr _ (by decide) (by decide)]
      exact hf'.1
    · rw [fr _ (by decide) (by decide)]
      exact hf'.2
    · rw [fr _ (by decide) (by decide), fr 84 (by decide) (by decide)]
      exact hc'.1
    · rw [fr _ (by decide) (by decide), fr 84 (by decide) (by decide)]
      exact hc'.2.1
    · rw [fr _ (by decide) (by decide), fr 84 (by decide) (by decide)]
      exact hc'.2.2
/-! what there is -/
theorem o_status {S : mS} (H : Inv S) (v1 : Int32) : Agr (f_X6_status (nI 0) v1) (f_X7_status (nI 83) v1) S := by
  obtain ⟨k, I⟩ := Inv_k H
  have hL := I.1
  have hv : VH k.h := I.2.1.1
  have hr : RH S 2 k.h := I.2.2.1.2.1
  have hm : MK S k := I.2.2.2.1
  have hq : RM S k.h := hm.2.1
  have ho : HO 2 := Or.inl rfl
  have hw := hv.1
  have hf := hv.2.1
  have w7 : k.h.w ≤ 7 := by omega
  have I' := I
  obtain ⟨-, -, ⟨t1, t2, t3⟩, -, -⟩ := I'.2.2.2.2
  cases c1 : dN 3 v1 with
  | false =>
    have n0 : (v1 = 0) = False := eq_false (by rintro rfl; revert c1; decide)
    have n1 : (v1 = 1) = False := eq_false (by rintro rfl; revert c1; decide)
    have n2 : (v1 = 2) = False := eq_false (by rintro rfl; revert c1; decide)
    exact Agr_ref (v := -1) 0 (by decide) I (by simp (maxDischargeDepth := 40) only [f_X6_status, hL, gc_0, gc_1, gc_2, gc_3, gc_4, gc_5, Ly_put, kcf, kca, n0, n1, n2, x_bad hL, mCp_e, mC_e, mCv_e, mZ_0, mZ_1, mZ_ifb, if_true, if_false, n10, eq_self, reduceCtorEq, Bool.false_eq_true, Nat.add_zero, Nat.reduceAdd]) (fun S1 hL1 hm1 => by
      simp (maxDischargeDepth := 40) only [f_X7_status, hL1, gc_0, gc_1, gc_2, gc_3, gc_4, gc_5, Ly_put, kcf, kca, i_in, c1, mCp_e, mC_e, mCv_e, mZ_0, mZ_1, mZ_ifb, if_true, if_false, n10, eq_self, reduceCtorEq, Bool.false_eq_true, Nat.add_zero, Nat.reduceAdd]
      rw [show (0 : Int32) = nI 0 from rfl]
      simp (maxDischargeDepth := 40) only [hL1, gc_0, gc_1, gc_2, gc_3, gc_4, gc_5, Ly_put, kcf, kca, show (0 : Nat) < 3 by decide])
  | true =>
    obtain ⟨c, hc, rfl⟩ := dN_some c1 (by decide)
    rcases j3 hc with rfl | rfl | rfl
    · exact Agr_r I (r := S.2.1 0 14) (by simp (maxDischargeDepth := 40) only [f_X6_status, hL, gc_0, gc_1, gc_2, gc_3, gc_4, gc_5, Ly_put, kcf, kca, litz, mCp_e, mC_e, mCv_e, mZ_0, mZ_1, mZ_ifb, if_true, if_false, n10, eq_self, reduceCtorEq, Bool.false_eq_true, Nat.add_zero, Nat.reduceAdd]) (by simp (maxDischargeDepth := 40) only [f_X7_status, hL, gc_0, gc_1, gc_2, gc_3, gc_4, gc_5, Ly_put, kcf, kca, i_in, c1, show (0 : Nat) < 3 by decide, t1, mCp_e, mC_e, mCv_e, mZ_0, mZ_1, mZ_ifb, if_true, if_false, n10, eq_self, reduceCtorEq, Bool.false_eq_true, Nat.add_zero, Nat.reduceAdd])
    · exact Agr_r I (r := S.2.1 0 15) (by simp (maxDischargeDepth := 40) only [f_X6_status, hL, gc_0, gc_1, gc_2, gc_3, gc_4, gc_5, Ly_put, kcf, kca, litz, mCp_e, mC_e, mCv_e, mZ_0, mZ_1, mZ_ifb, if_true, if_false, n10, eq_self, reduceCtorEq, Bool.false_eq_true, Nat.add_zero, Nat.reduceAdd]) (by simp (maxDischargeDepth := 40) only [f_X7_status, hL, gc_0, gc_1, gc_2, gc_3, gc_4, gc_5, Ly_put, kcf, kca, i_in, c1, show (1 : Nat) < 3 by decide, t2, mCp_e, mC_e, mCv_e, mZ_0, mZ_1, mZ_ifb, if_true, if_false, n10, eq_self, reduceCtorEq, Bool.false_eq_true, Nat.add_zero, Nat.reduceAdd])
    · exact Agr_r I (r := S.2.1 0 16) (by simp (maxDischargeDepth := 40) only [f_X6_status, hL, gc_0, gc_1, gc_2, gc_3, gc_4, gc_5, Ly_put, kcf, kca, litz, show (nI 2 = 2) = True by decide, mCp_e, mC_e, mCv_e, mZ_0, mZ_1, mZ_ifb, if_true, if_false, n10, eq_self, reduceCtorEq, Bool.false_eq_true, Nat.add_zero, Nat.reduceAdd]) (by simp (maxDischargeDepth := 40) only [f_X7_status, hL, gc_0, gc_1, gc_2, gc_3, gc_4, gc_5, Ly_put, kcf, kca, i_in, c1, show (2 : Nat) < 3 by decide, t3, mCp_e, mC_e, mCv_e, mZ_0, mZ_1, mZ_ifb, if_true, if_false, n10, eq_self, reduceCtorEq, Bool.false_eq_true, Nat.add_zero, Nat.reduceAdd])
/-- two that answer long numbers -/
def AgrL (e1 e2 : mS → Option (Int64 × mS)) (S : mS) : Prop := ∃ r S1 S2, e1 S = some (r, S1) ∧ S1.1 = 100 ∧ e2 S1 = some (r, S2) ∧ Inv S2
theorem o_part {S : mS} (H : Inv S) (v1 : Int32) : AgrL (f_X6_part (nI 0) v1) (f_X7_part (nI 83) v1) S := by
  obtain ⟨k, I⟩ := Inv_k H
  have hL := I.1
  have hv : VH k.h := I.2.1.1
  have hr : RH S 2 k.h := I.2.2.1.2.1
  have hm : MK S k := I.2.2.2.1
  have hq : RM S k.h := hm.2.1
  have ho : HO 2 := Or.inl rfl
  have hw := hv.1
  have hf := hv.2.1
  have w7 : k.h.w ≤ 7 := by omega
  have I' := I
  obtain ⟨-, ⟨t1, t2⟩, -, -, -⟩ := I'.2.2.2.2
  cases c1 : dN 2 v1 with
  | false =>
    have n0 : (v1 = 0) = False := eq_false (by rintro rfl; revert c1; decide)
    have n1 : (v1 = 1) = False := eq_false (by rintro rfl; revert c1; decide)
    have hL1 : Ly (mPut S 0 14 (S.2.1 0 14 + 1)) := Ly_put hL (by decide)
    exact ⟨(-2 : Int32).toInt64, _, _, by simp (maxDischargeDepth := 40) only [f_X6_part, hL, gc_0, gc_1, gc_2, gc_3, gc_4, gc_5, Ly_put, kcf, kca, i_in, c1, x_bad hL, mCp_e, mC_e, mCv_e, mZ_0, mZ_1, mZ_ifb, if_true, if_false, n10, eq_self, reduceCtorEq, Bool.false_eq_true, Nat.add_zero, Nat.reduceAdd], hL1.1, by simp (maxDischargeDepth := 40) only [f_X7_part, f_X7_part_28, hL1, gc_0, gc_1, gc_2, gc_3, gc_4, gc_5, Ly_put, kcf, kca, n0, n1, y_bad hL1, mCp_e, mC_e, mCv_e, mZ_0, mZ_1, mZ_ifb, if_true, if_false, n10, eq_self, reduceCtorEq, Bool.false_eq_true, Nat.add_zero, Nat.reduceAdd], ref_inv (z := 0) (by decide) H⟩
  | true =>
    obtain ⟨c, hc, rfl⟩ := dN_some c1 (by decide)
    rcases (show c = 0 ∨ c = 1 by omega) with rfl | rfl
    · exact ⟨(S.2.1 0 12).toInt64, S, S, by simp (maxDischargeDepth := 40) only [f_X6_part, f_X6_part_34, hL, gc_0, gc_1, gc_2, gc_3, gc_4, gc_5, Ly_put, kcf, kca, i_in, c1, litz, mCp_e, mC_e, mCv_e, mZ_0, mZ_1, mZ_ifb, if_true, if_false, n10, eq_self, reduceCtorEq, Bool.false_eq_true, Nat.add_zero, Nat.reduceAdd], hL.1, by simp (maxDischargeDepth := 40) only [f_X7_part, f_X7_part_28, hL, gc_0, gc_1, gc_2, gc_3, gc_4, gc_5, Ly_put, kcf, kca, litz, t1, mCp_e, mC_e, mCv_e, mZ_0, mZ_1, mZ_ifb, if_true, if_false, n10, eq_self, reduceCtorEq, Bool.false_eq_true, Nat.add_zero, Nat.reduceAdd], H⟩
    · exact ⟨(S.2.1 0 13).toInt64, S, S, by simp (maxDischargeDepth := 40) only [f_X6_part, f_X6_part_34, hL, gc_0, gc_1, gc_2, gc_3, gc_4, gc_5, Ly_put, kcf, kca, i_in, c1, litz, mCp_e, mC_e, mCv_e, mZ_0, mZ_1, mZ_ifb, if_true, if_false, n10, eq_self, reduceCtorEq, Bool.false_eq_true, Nat.add_zero, Nat.reduceAdd], hL.1, by simp (maxDischargeDepth := 40) only [f_X7_part, f_X7_part_28, hL, gc_0, gc_1, gc_2, gc_3, gc_4, gc_5, Ly_put, kcf, kca, litz, t2, mCp_e, mC_e, mCv_e, mZ_0, mZ_1, mZ_ifb, if_true, if_false, n10, eq_self, reduceCtorEq, Bool.false_eq_true, Nat.add_zero, Nat.reduceAdd], H⟩
