def FB (S S1 : mS) : Prop := S1.1 = S.1 ∧ (∀ q, q ≠ 83 → q ≠ 86 → q ≠ 88 → q ≠ 95 → q ≠ 97 → S1.2.1 q = S.2.1 q) ∧ (∀ j, j ≠ 4 → S1.2.1 83 j = S.2.1 83 j) ∧ S1.2.2 = S.2.2
theorem FB_tr {S S1 S2 : mS} (a : FB S S1) (b : FB S1 S2) : FB S S2 := ⟨b.1.trans a.1, fun k x y z w u => (b.2.1 k x y z w u).trans (a.2.1 k x y z w u), fun j x => (b.2.2.1 j x).trans (a.2.2.1 j x), b.2.2.2.trans a.2.2.2⟩
theorem FB_fa {S S1 : mS} (f : FA S S1) : FB S S1 := ⟨f.1, fun q a b c d _ => f.2.1 q a b c d, f.2.2.1, f.2.2.2⟩
theorem FB_put {S : mS} {j : Nat} {v : Int32} : FB S (mPut S 97 j v) := ⟨rfl, fun q _ _ _ _ e => mPut_r _ _ _ _ _ e, fun j _ => by rw [mPut_r _ _ _ _ _ (by decide)], rfl⟩
theorem FB_TM {S S1 : mS} (f : FB S S1) : TM S S1 := ⟨f.1, fun k hk => f.2.1 k (by omega) (by omega) (by omega) (by omega) (by omega), f.2.2.1 16 (by decide), fun j _ => by rw [f.2.2.2]⟩
theorem MK_fb {S S1 : mS} {k : KS} (f : FB S S1) (c : MK S k) (hr : RM S1 k.h) : MK S1 k := by
  obtain ⟨c1, c2, c3, c4, c5, c6⟩ := c
  exact ⟨(f.2.2.1 3 (by decide)).trans c1, hr, RR_f (f.2.2.1 _ (by decide)) (f.2.1 _ (by decide) (by decide) (by decide) (by decide) (by decide)) c3, RR_f (f.2.2.1 _ (by decide)) (f.2.1 _ (by decide) (by decide) (by decide) (by decide) (by decide)) c4, RR_f (f.2.2.1 _ (by decide)) (f.2.1 _ (by decide) (by decide) (by decide) (by decide) (by decide)) c5, RP_f (f.2.2.1 _ (by decide)) (f.2.1 _ (by decide) (by decide) (by decide) (by decide) (by decide)) c6⟩
theorem x_fBB {S : mS} {k : KS} {a b : Nat} (hL : Ly S) (v : VK k) (ck : CK S 1 k) (ha : a < k.h.w) (hb : b < k.h.w) : ∃ S1, f_X6_foldByBoth (nI 0) (nI a) (nI b) S = some S1 ∧ Ly S1 ∧ Fr 65 83 S S1 ∧ ∀ q, q < 25 → S1.2.1 82 q = nI (nB k a b q) := by
  have ht := v.2.1
  obtain ⟨m, S2, ⟨p2, p3, p4⟩, e⟩ := lupI (fun n i (s : mS) => f_X6_foldByBoth_2 f_X6_foldByBoth_99 n (nI 0) (nI a) (nI b) (nI i) s) (fun i (s : mS) => Ly s ∧ Fr 65 83 S s ∧ ∀ q, q < 5 * i → s.2.1 82 q = nI (nB k a b q)) 5 (by
    rintro n i T hi ⟨q2, q3, q4⟩
    have le : ((5 : Int32) ≤ nI i) = False := eq_false (nI_ge hi (by decide))
    have hrT : RH T 2 k.h := RH_sa (q3.sa (by omega)) ck.2.1
    obtain ⟨A, a1, a2, a3, a4⟩ := x_copy h65 h2_ (by decide) q2 hrT v.1.1 v.1.2.1
    obtain ⟨B, b1, b2, b3, b4⟩ := x_call h65 a2 a3 v.1 ha hi
    have v1 : VH (hC k.h a i) := VH_C v.1 (by omega) ha hi
    have frB : Fr 65 83 S B := Fr_tr q3 (Fr_tr (Fr_wd a4 (by decide) (by decide)) (Fr_wd b4 (by decide) (by decide)))
    have hB82 : B.2.1 82 = T.2.1 82 := by rw [b4.2.1 82 (by omega), a4.2.1 82 (by omega)]
    obtain ⟨m2, S3, ⟨r2, r3, r4, r5⟩, e2⟩ := lupI (fun n2 j (s : mS) => f_X6_foldByBoth_34 (f_X6_foldByBoth_93 (f_X6_foldByBoth_2 f_X6_foldByBoth_99 n)) n2 (nI 0) (nI a) (nI b) (nI i) (nI j) s) (fun j (s : mS) => Ly s ∧ Fr 65 83 S s ∧ RH s 65 (hC k.h a i) ∧ ∀ q, q < 5 * i + j → s.2.1 82 q = nI (nB k a b q)) 5 (by
      rintro n2 j U hj ⟨u2, u3, u4, u5⟩
      have le2 : ((5 : Int32) ≤ nI j) = False := eq_false (nI_ge hj (by decide))
      obtain ⟨C, c1, c2, c3, c4⟩ := x_copy h70 h65 (by decide) u2 u4 v1.1 v1.2.1
      obtain ⟨D, d1, d2, d3, d4⟩ := x_call h70 c2 c3 v1 hb hj
      have v2 : VH (hC (hC k.h a i) b j) := VH_C v1 (by show k.h.t + 1 + 1 ≤ 20000; omega) hb hj
      have hF : D.2.1 1 5 = nI k.fold := by rw [d4.2.1 1 (by omega), c4.2.1 1 (by omega), u3.2.1 1 (by omega)]; exact ck.1
      have bq : 5 * i + j < 25 := by omega
      have nb : nB k a b (5 * i + j) = cnt (inC (hC (hC k.h a i) b j) k.fold) k.h.f := by unfold nB; rw [(q5 hj).1, (q5 hj).2]
      have mi := x_mIn h70 d2 d3 v2 v.2.2.1
      refine ⟨mPut D 82 (5 * i + j) (nI (nB k a b (5 * i + j))), ⟨Ly_put d2 (cst_arr (Or.inl rfl)), Fr_tr u3 (Fr_tr (Fr_wd c4 (by decide) (by decide)) (Fr_tr (Fr_wd d4 (by decide) (by decide)) (Fr_put (by decide) (by decide)))), ?_, fun q hq => ?_⟩, ?_⟩
      · exact RH_sa (fun q x y => by rw [mPut_r _ _ _ _ _ (by omega), d4.2.1 q (by omega), c4.2.1 q (by omega)]) u4
      · rw [mPut_g]
        by_cases e : q = 5 * i + j
        · rw [e, if_pos ⟨rfl, rfl⟩]
        · rw [if_neg (fun z => e z.2), d4.2.1 82 (by omega), c4.2.1 82 (by omega)]
          exact u5 q (by omega)
      · show f_X6_foldByBoth_34 _ (n2 + 1) _ _ _ _ _ U = _
        rw [f_X6_foldByBoth_34_s, nb]
        simp (maxDischargeDepth := 40) only [le2, u2, gc_0, gc_1, gc_2, gc_3, gc_4, gc_5, Ly_put, kcf, kca, c1, c2, d1, d2, hF, mi, i5, bq, nI_1, mCp_e, mC_e, mCv_e, mZ_0, mZ_1, mZ_ifb, if_true, if_false, n10, eq_self, reduceCtorEq, Bool.false_eq_true, Nat.add_zero, Nat.reduceAdd]
        rfl) 1000 B ⟨b2, frB, b3, fun q hq => by rw [hB82]; exact q4 q (by omega)⟩ (by decide)
    refine ⟨S3, ⟨r2, r3, fun q hq => r5 q (by omega)⟩, ?_⟩
    show f_X6_foldByBoth_2 f_X6_foldByBoth_99 (n + 1) _ _ _ _ T = _
    rw [f_X6_foldByBoth_2_s]
    simp (maxDischargeDepth := 40) only [le, q2, gc_0, gc_1, gc_2, gc_3, gc_4, gc_5, Ly_put, kcf, kca, a1, a2, b1, mCp_e, mC_e, mCv_e, mZ_0, mZ_1, mZ_ifb, if_true, if_false, n10, eq_self, reduceCtorEq, Bool.false_eq_true, Nat.add_zero, Nat.reduceAdd]
    refine Eq.trans e2 ?_
    have le6 : ((5 : Int32) ≤ nI 5) = True := by decide
    rw [f_X6_foldByBoth_34_s]
    simp (maxDischargeDepth := 40) only [le6, f_X6_foldByBoth_93, nI_1, mCp_e, mC_e, mCv_e, mZ_0, mZ_1, mZ_ifb, if_true, if_false, n10, eq_self, reduceCtorEq, Bool.false_eq_true, Nat.add_zero, Nat.reduceAdd]) 1000 S ⟨hL, Fr_rf, fun q hq => absurd hq (by omega)⟩ (by decide)
  refine ⟨S2, ?_, p2, p3, p4⟩
  unfold f_X6_foldByBoth
  refine Eq.trans e ?_
  have le6 : ((5 : Int32) ≤ nI 5) = True := by decide
  rw [f_X6_foldByBoth_2_s]
  simp (maxDischargeDepth := 40) only [le6, f_X6_foldByBoth_99, mCp_e, mC_e, mCv_e, mZ_0, mZ_1, mZ_ifb, if_true, if_false, n10, eq_self, reduceCtorEq, Bool.false_eq_true, Nat.add_zero, Nat.reduceAdd]
theorem y_fB {S : mS} {k : KS} {a b i j : Nat} (hL : Ly S) (v : VK k) (hr : RM S k.h) (hF : S.2.1 83 3 = nI k.fold) (ha : a < k.h.w) (hb : b < k.h.w) (hi : i < 5) (hj : j < 5) : ∃ S5, f_X7_foldedBy (nI 83) (nI a) (nI b) (nI i) (nI j) S = some (nI (nB k a b (5 * i + j)), S5) ∧ Ly S5 ∧ RM S5 k.h ∧ FA S S5 := by
  have ht := v.2.1
  have v1 : VH (hC k.h a i) := VH_C v.1 (by omega) ha hi
  have v2 : VH (hC (hC k.h a i) b j) := VH_C v1 (by show k.h.t + 1 + 1 ≤ 20000; omega) hb hj
  obtain ⟨S1, l1, l2, l3, l4, ⟨l5, l6, l7⟩, l8⟩ := lay0 (a := 11) hL (by decide)
  have r1 : RM S1 k.h := by rw [l4]; exact hr
  obtain ⟨S2, a1, a2, a3, a4⟩ := y_comes l2 r1 v.1 ha hi
  obtain ⟨S3, b1, b2, b3, b4⟩ := y_comes a2 a3 v1 hb hj
  have fm4 : FM S1 S3 := FM_tr a4 b4
  have hF4 : S3.2.1 83 3 = nI k.fold := by rw [fm4.2.2.1 3 (by decide), l8]; exact hF
  have nb : nB k a b (5 * i + j) = cnt (inC (hC (hC k.h a i) b j) k.fold) k.h.f := by unfold nB; rw [(q5 hj).1, (q5 hj).2]
  have mny : f_X7_foldedMany (nI 83) S3 = some (nI (nB k a b (5 * i + j))) := by rw [nb]; exact y_fMany b2 b3 v2 hF4 v.2.2.1
  have r95 : S3.2.1 95 = S1.2.1 95 := fm4.2.1 95 (by decide) (by decide) (by decide)
  obtain ⟨S5, e1, e2, e3, e4⟩ := y_back (a := 11) b2 hr v.1 (by decide) (FA_tr l3 (FA_fm fm4)) (by rw [r95]; exact l5) (fun j hj => by rw [r95]; exact l6 j hj) (fun j hj => by rw [r95]; exact l7 j hj)
  have l1' : f_X7_lays (nI 83) (nI 95) 11 S = some S1 := l1
  have e1' : f_X7_takes (nI 83) (nI 95) 11 S3 = some S5 := e1
  refine ⟨S5, ?_, e2, e3, e4⟩
  simp (maxDischargeDepth := 40) only [f_X7_foldedBy, hL, gc_0, gc_1, gc_2, gc_3, gc_4, gc_5, Ly_put, kcf, kca, l1', l2, a1, a2, b1, b2, mny, e1', mCp_e, mC_e, mCv_e, mZ_0, mZ_1, mZ_ifb, if_true, if_false, n10, eq_self, reduceCtorEq, Bool.false_eq_true, Nat.add_zero, Nat.reduceAdd]
theorem y_shl {S : mS} {k : KS} {a b : Nat} {K : Int32} (hL : Ly S) (v : VK k) (mk : MK S k) (ha : a < k.h.w) (hb : b < k.h.w) : ∃ S1, f_X7_shepherds_37 f_X7_shepherds_71 1000 (nI 83) (nI a) (nI b) K 0 S = some (wRes (rsB (nB k a b) k.h.f) K 25, S1) ∧ Ly S1 ∧ RM S1 k.h ∧ FB S S1 := by
  obtain ⟨m, S2, ⟨p2, p3, p4, p5⟩, e⟩ := lupI (fun n q (s : mS) => f_X7_shepherds_37 f_X7_shepherds_71 n (nI 83) (nI a) (nI b) K (nI q) s) (fun q (s : mS) => Ly s ∧ RM s k.h ∧ FB S s ∧ ∀ x, x < q → s.2.1 97 x = nI (nB k a b x)) 25 (by
    rintro n q T hq ⟨q2, q3, q4, q6⟩
    have le : ((25 : Int32) ≤ nI q) = False := eq_false (nI_ge hq (by decide))
    have dq := dv25 q hq
    have hF : T.2.1 83 3 = nI k.fold := by rw [q4.2.2.1 3 (by decide)]; exact mk.1
    obtain ⟨T1, a1, a2, a3, a4⟩ := y_fB (i := q / 5) (j := q % 5) q2 v q3 hF ha hb (by omega) (by omega)
    rw [show 5 * (q / 5) + q % 5 = q by omega] at a1
    refine ⟨mPut T1 97 q (nI (nB k a b q)), ⟨Ly_put a2 (cst_arr (Or.inl rfl)), RM_sa (fun x _ _ => mPut_r _ _ _ _ _ (by omega)) a3, FB_tr q4 (FB_tr (FB_fa a4) FB_put), fun x hx => ?_⟩, ?_⟩
    · rw [mPut_g]
      by_cases e : x = q
      · rw [e, if_pos ⟨rfl, rfl⟩]
      · rw [if_neg (fun z => e z.2), a4.2.1 97 (by decide) (by decide) (by decide) (by decide)]
        exact q6 x (by omega)
    · show f_X7_shepherds_37 f_X7_shepherds_71 (n + 1) _ _ _ _ _ T = _
      rw [f_X7_shepherds_37_s]
      simp (maxDischargeDepth := 40) only [le, q2, gc_0, gc_1, gc_2, gc_3, gc_4, gc_5, Ly_put, kcf, kca, dq.1, dq.2, a1, a2, hq, nI_1, mCp_e, mC_e, mCv_e, mZ_0, mZ_1, mZ_ifb, if_true, if_false, n10, eq_self, reduceCtorEq, Bool.false_eq_true, Nat.add_zero, Nat.reduceAdd]) 1000 S ⟨hL, mk.2.1, ⟨rfl, fun _ _ _ _ _ _ => rfl, fun _ _ => rfl, rfl⟩, fun x hx => absurd hx (Nat.not_lt_zero x)⟩ (by decide)
  refine ⟨S2, ?_, p2, p3, p4⟩
  refine Eq.trans e ?_
  have le6 : ((25 : Int32) ≤ nI 25) = True := by decide
  rw [f_X7_shepherds_37_s]
  simp (maxDischargeDepth := 40) only [le6, if_true]
  exact y_sh p2 p3.2.1 p5
theorem o_shepherds {S : mS} (H : Inv S) (v1 v2 v3 : Int32) : Agr (f_X6_shepherds (nI 0) v1 v2 v3) (f_X7_shepherds (nI 83) v1 v2 v3) S := by
  obtain ⟨k, I⟩ := Inv_k H
  have hL := I.1
  have hv : VH k.h := I.2.1.1
  have hr : RH S 2 k.h := I.2.2.1.2.1
  have hm : MK S k := I.2.2.2.1
  have hq : RM S k.h := hm.2.1
  have ho : HO 2 := Or.inl rfl
  have hw := hv.1
  have hf := hv.2.1
  have w7 : k.h.w ≤ 7 := by omega
  cases c1 : dN k.h.w v1 with
  | false =>
    exact Agr_ref (v := -10) 0 (by decide) I (by simp (maxDischargeDepth := 40) only [f_X6_shepherds, f_X6_shepherds_38, hL, gc_0, gc_1, gc_2, gc_3, gc_4, gc_5, Ly_put, kcf, kca, x_hasW _ ho hL hr w7, x_hasS _ ho hL hr hf, x_cell, x_kind, x_iscall, x_isimage, i_in, c1, x_bad hL, mCp_e, mC_e, mCv_e, mZ_0, mZ_1, mZ_ifb, if_true, if_false, n10, eq_self, reduceCtorEq, Bool.false_eq_true, Nat.add_zero, Nat.reduceAdd]) (fun S1 hL1 hm1 => by simp (maxDischargeDepth := 40) only [f_X7_shepherds, f_X7_shepherds_26, hL1, gc_0, gc_1, gc_2, gc_3, gc_4, gc_5, Ly_put, kcf, kca, y_hasW _ hL1 hm1.2.1 w7, y_hasS _ hL1 hm1.2.1 hf, y_cell, y_iscall, i_in, c1, y_bad hL1, mCp_e, mC_e, mCv_e, mZ_0, mZ_1, mZ_ifb, if_true, if_false, n10, eq_self, reduceCtorEq, Bool.false_eq_true, Nat.add_zero, Nat.reduceAdd])
  | true =>
    cases c2 : dN k.h.w v2 with
    | false =>
      exact Agr_ref (v := -10) 0 (by decide) I (by simp (maxDischargeDepth := 40) only [f_X6_shepherds, f_X6_shepherds_38, hL, gc_0, gc_1, gc_2, gc_3, gc_4, gc_5, Ly_put, kcf, kca, x_hasW _ ho hL hr w7, x_hasS _ ho hL hr hf, x_cell, x_kind, x_iscall, x_isimage, i_in, c1, c2, x_bad hL, mCp_e, mC_e, mCv_e, mZ_0, mZ_1, mZ_ifb, if_true, if_false, n10, eq_self, reduceCtorEq, Bool.false_eq_true, Nat.add_zero, Nat.reduceAdd]) (fun S1 hL1 hm1 => by simp (maxDischargeDepth := 40) only [f_X7_shepherds, f_X7_shepherds_26, hL1, gc_0, gc_1, gc_2, gc_3, gc_4, gc_5, Ly_put, kcf, kca, y_hasW _ hL1 hm1.2.1 w7, y_hasS _ hL1 hm1.2.1 hf, y_cell, y_iscall, i_in, c1, c2, y_bad hL1, mCp_e, mC_e, mCv_e, mZ_0, mZ_1, mZ_ifb, if_true, if_false, n10, eq_self, reduceCtorEq, Bool.false_eq_true, Nat.add_zero, Nat.reduceAdd])
    | true =>
      by_cases c3 : v1 = v2
      · have c3' : (v1 = v2) = True := eq_true c3
        exact Agr_ref (v := -10) 0 (by decide) I (by simp (maxDischargeDepth := 40) only [f_X6_shepherds, f_X6_shepherds_38, hL, gc_0, gc_1, gc_2, gc_3, gc_4, gc_5, Ly_put, kcf, kca, x_hasW _ ho hL hr w7, x_hasS _ ho hL hr hf, x_cell, x_kind, x_iscall, x_isimage, i_in, c1, c2, c3', x_bad hL, mCp_e, mC_e, mCv_e, mZ_0, mZ_1, mZ_ifb, if_true, if_false, n10, eq_self, reduceCtorEq, Bool.false_eq_true, Nat.add_zero, Nat.reduceAdd]) (fun S1 hL1 hm1 => by simp (maxDischargeDepth := 40) only [f_X7_shepherds, f_X7_shepherds_26, hL1, gc_0, gc_1, gc_2, gc_3, gc_4, gc_5, Ly_put, kcf, kca, y_hasW _ hL1 hm1.2.1 w7, y_hasS _ hL1 hm1.2.1 hf, y_cell, y_iscall, i_in, c1, c2, c3', y_bad hL1, mCp_e, mC_e, mCv_e, mZ_0, mZ_1, mZ_ifb, if_true, if_false, n10, eq_self, reduceCtorEq, Bool.false_eq_true, Nat.add_zero, Nat.reduceAdd])
      · by_cases c4 : (-1 : Int32) ≤ v3
        · obtain ⟨a, ha, rfl⟩ := dN_some c1 (by omega)
          obtain ⟨b, hb, rfl⟩ := dN_some c2 (by omega)
          obtain ⟨S1, x1, x2, x3, x4⟩ := x_fBB hL I.2.1 I.2.2.1 ha hb
          have h5 : S1.2.1 2 5 = nI k.h.f := by rw [x3.2.1 2 (by omega)]; exact hr.2.1
          have x5 := x_sh (K := v3) x2 h5 x4
          refine Agr_k I I.2.1 (r := wRes (rsB (nB k a b) k.h.f) v3 25) ⟨S1, by simp (maxDischargeDepth := 40) only [f_X6_shepherds, hL, gc_0, gc_1, gc_2, gc_3, gc_4, gc_5, Ly_put, kcf, kca, x_hasW _ ho hL hr w7, x_hasS _ ho hL hr hf, x_cell, x_kind, x_iscall, x_isimage, i_in, c1, c2, c3, c4, x1, x5, mCp_e, mC_e, mCv_e, mZ_0, mZ_1, mZ_ifb, if_true, if_false, n10, eq_self, reduceCtorEq, Bool.false_eq_true, Nat.add_zero, Nat.reduceAdd], x2, CK_sa (x3.sa (by omega)) I.2.2.1, TC_fr x3 (by omega)⟩ (fun S2 hL1 hm1 => ?_)
          obtain ⟨S3, y1, y2, y3, y4⟩ := y_shl (K := v3) hL1 I.2.1 hm1 ha hb
          exact ⟨S3, by simp (maxDischargeDepth := 40) only [f_X7_shepherds, hL1, gc_0, gc_1, gc_2, gc_3, gc_4, gc_5, Ly_put, kcf, kca, y_hasW _ hL1 hm1.2.1 w7, y_hasS _ hL1 hm1.2.1 hf, y_cell, y_iscall, i_in, c1, c2, c3, c4, y1, mCp_e, mC_e, mCv_e, mZ_0, mZ_1, mZ_ifb, if_true, if_false, n10, eq_self, reduceCtorEq, Bool.false_eq_true, Nat.add_zero, Nat.reduceAdd], y2, MK_fb y4 hm1 y3, FB_TM y4⟩
        · exact Agr_ref (v := -10) 0 (by decide) I (by simp (maxDischargeDepth := 40) only [f_X6_shepherds, f_X6_shepherds_38, hL, gc_0, gc_1, gc_2, gc_3, gc_4, gc_5, Ly_put, kcf, kca, x_hasW _ ho hL hr w7, x_hasS _ ho hL hr hf, x_cell, x_kind, x_iscall, x_isimage, i_in, c1, c2, c3, c4, x_bad hL, mCp_e, mC_e, mCv_e, mZ_0, mZ_1, mZ_ifb, if_true, if_false, n10, eq_self, reduceCtorEq, Bool.false_eq_true, Nat.add_zero, Nat.reduceAdd]) (fun S1 hL1 hm1 => by simp (maxDischargeDepth := 40) only [f_X7_shepherds, f_X7_shepherds_26, hL1, gc_0, gc_1, gc_2, gc_3, gc_4, gc_5, Ly_put, kcf, kca, y_hasW _ hL1 hm1.2.1 w7, y_hasS _ hL1 hm1.2.1 hf, y_cell, y_iscall, i_in, c1, c2, c3, c4, y_bad hL1, mCp_e, mC_e, mCv_e, mZ_0, mZ_1, mZ_ifb, if_true, if_false, n10, eq_self, reduceCtorEq, Bool.false_eq_true, Nat.add_zero, Nat.reduceAdd])
