theorem lay0 {S : mS} (hL : Ly S) {a : Nat} (ha : a + 11 ≤ 22) : ∃ S1, f_X7_lays (nI 83) (nI 95) (nI a) S = some S1 ∧ Ly S1 ∧ FA S S1 ∧ RM S1 = RM S ∧ (S1.2.1 95 a = S.2.1 83 4 ∧ (∀ i, i < 3 → S1.2.1 95 (a + 1 + i) = S.2.1 86 i) ∧ (∀ i, i < 7 → S1.2.1 95 (a + 4 + i) = S.2.1 88 i)) ∧ S1.2.1 83 = S.2.1 83 := by
  obtain ⟨S1, l1, l2, l3, l4, l5, l6, l7⟩ := y_lays (a := 95) (at_ := a) hL rfl (by decide) (show a + 11 ≤ 22 from ha)
  refine ⟨S1, l1, l2, FA_fr l3, ?_, ⟨l4, l5, l6⟩, l3.2.1 83 (by omega)⟩
  funext h
  unfold RM
  rw [l3.2.1 83 (by omega), l3.2.1 85 (by omega), l3.2.1 86 (by omega), l3.2.1 87 (by omega), l3.2.1 88 (by omega)]
theorem y_g3 {S : mS} {k : KS} {i c : Nat} (hL : Ly S) (v : VK k) (hr : RM S k.h) (hF : S.2.1 83 3 = nI k.fold) (hi : i < k.h.w) (hc : c < 125) {ρ : Type} (K : Int32 → mS → Option ρ) : ∃ S5, Ly S5 ∧ RM S5 k.h ∧ FA S S5 ∧ (mGr 7 22 (nI 83) S (fun r5 => mRc 7 (nI 83) S (mCv (f_X7_lays (nI 83) r5 0 S) (fun S7 => mRc 7 (nI 83) S7 (mC (f_X7_comes (nI 83) (nI i) (nI c / 25) S7) (fun r8 S9 => mRc 7 (nI 83) S9 (mC (f_X7_comes (nI 83) (nI i) (mRem (nI c / 5) 5) S9) (fun r10 S11 => mRc 7 (nI 83) S11 (mC (f_X7_comes (nI 83) (nI i) (mRem (nI c) 5) S11) (fun r12 S13 => mRc 7 (nI 83) S13 (mCp (f_X7_foldedMany (nI 83) S13) (fun r14 => mGr 7 22 (nI 83) S13 (fun r15 => mRc 7 (nI 83) S13 (mCv (f_X7_takes (nI 83) r15 0 S13) (fun S17 => K r14 S17))))))))))))))) = K (nI (n3 k i c)) S5 := by
  have ht := v.2.1
  have t := tri c hc
  have d1 : c / 25 < 5 := by omega
  have d2 : c / 5 % 5 < 5 := by omega
  have d3 : c % 5 < 5 := by omega
  have v1 : VH (hC k.h i (c / 25)) := VH_C v.1 (by omega) hi d1
  have v2 : VH (hC (hC k.h i (c / 25)) i (c / 5 % 5)) := VH_C v1 (by show k.h.t + 1 + 1 ≤ 20000; omega) hi d2
  have v3 : VH (h3 k i c) := VH_C v2 (by show k.h.t + 1 + 1 + 1 ≤ 20000; omega) hi d3
  obtain ⟨S1, l1, l2, l3, l4, ⟨l5, l6, l7⟩, l8⟩ := lay0 (a := 0) hL (by decide)
  have r1 : RM S1 k.h := by rw [l4]; exact hr
  obtain ⟨S2, a1, a2, a3, a4⟩ := y_comes l2 r1 v.1 hi d1
  obtain ⟨S3, b1, b2, b3, b4⟩ := y_comes a2 a3 v1 hi d2
  obtain ⟨S4, c1, c2, c3, c4⟩ := y_comes b2 b3 v2 hi d3
  have fm4 : FM S1 S4 := FM_tr a4 (FM_tr b4 c4)
  have hF4 : S4.2.1 83 3 = nI k.fold := by rw [fm4.2.2.1 3 (by decide), l8]; exact hF
  have mny : f_X7_foldedMany (nI 83) S4 = some (nI (n3 k i c)) := y_fMany c2 c3 v3 hF4 v.2.2.1
  have r95 : S4.2.1 95 = S1.2.1 95 := fm4.2.1 95 (by decide) (by decide) (by decide)
  obtain ⟨S5, e1, e2, e3, e4⟩ := y_back (a := 0) c2 hr v.1 (by decide) (FA_tr l3 (FA_fm fm4)) (by rw [r95]; exact l5) (fun j hj => by rw [r95]; exact l6 j hj) (fun j hj => by rw [r95]; exact l7 j hj)
  have l1' : f_X7_lays (nI 83) (nI 95) 0 S = some S1 := l1
  have e1' : f_X7_takes (nI 83) (nI 95) 0 S4 = some S5 := e1
  refine ⟨S5, e2, e3, e4, ?_⟩
  simp (maxDischargeDepth := 40) only [hL, gc_0, gc_1, gc_2, gc_3, gc_4, gc_5, Ly_put, kcf, kca, l1', l2, t.2.2.2.2.2.1, a1, a2, t.2.2.2.2.2.2, b1, b2, t.2.2.2.1, c1, c2, mny, e1', mCp_e, mC_e, mCv_e, mZ_0, mZ_1, mZ_ifb, if_true, if_false, n10, eq_self, reduceCtorEq, Bool.false_eq_true, Nat.add_zero, Nat.reduceAdd]
theorem fM_g {g : Nat → Nat} {j : Nat} (h : ∀ i, g i < 1000) : f_X7_greater (fM g j) (nI (g j)) = some (fM g (j + 1)) := by
  by_cases e : j = 0
  · subst e
    have h1 := h 0
    have f0 : fM g 0 = -1 := rfl
    have f1 : fM g (0 + 1) = nI (g 0) := by rw [fM_s.1, if_neg (by omega)]
    rw [f0, f1]
    unfold f_X7_greater f_X7_greater_10
    rw [if_pos]
    rw [Int32.le_iff_toInt_le, nI_toInt (by omega)]
    show (-1 : Int) ≤ _
    omega
  · have h1 := h j
    have h2 := h (fm g j)
    have b1 : fM g j = nI (g (fm g j)) := if_neg e
    rw [fM_s.1, b1, y_gr (by omega) (by omega)]
    by_cases c : g j ≤ g (fm g j)
    · rw [if_pos ⟨by omega, c⟩, Nat.max_eq_left c]
    · rw [if_neg (fun z => c z.2), Nat.max_eq_right (by omega)]
def fB (g : Nat → Nat) (j : Nat) : Int32 := if j = 0 then -1 else nI (cd3 (fm g j))
theorem y_gath {S : mS} {k : KS} {i w : Nat} (hL : Ly S) (v : VK k) (mk : MK S k) (hi : i < k.h.w) (hw : w < 2) : ∃ S1, f_X7_gather_30 f_X7_gather_144 1000 (nI 83) (nI i) (nI w) (-1) (-1) 0 S = some (if w = 0 then nI (n3 k i (fm (n3 k i) 125)) else nI (cd3 (fm (n3 k i) 125)), S1) ∧ Ly S1 ∧ RM S1 k.h ∧ FA S S1 := by
  obtain ⟨m, S2, ⟨p2, p3, p4⟩, e⟩ := lupI (fun n c (s : mS) => f_X7_gather_30 f_X7_gather_144 n (nI 83) (nI i) (nI w) (fB (n3 k i) c) (fM (n3 k i) c) (nI c) s) (fun c (s : mS) => Ly s ∧ RM s k.h ∧ FA S s) 125 (by
    rintro n c T hc ⟨q2, q3, q4⟩
    have le : ((125 : Int32) ≤ nI c) = False := eq_false (nI_ge hc (by decide))
    have hF : T.2.1 83 3 = nI k.fold := by rw [q4.2.2.1 3 (by decide)]; exact mk.1
    have t := tri c hc
    have m1 : ∀ x, 100 * nI x = nI (100 * x) := fun x => nI_mul 100 x
    have m2 : ∀ x, 10 * nI x = nI (10 * x) := fun x => nI_mul 10 x
    obtain ⟨T1, a1, a2, a3, a4⟩ := y_g3 q2 v q3 hF hi hc (fun r14 S17 => if r14 ≤ fM (n3 k i) c then ((f_X7_gather_128 (f_X7_gather_30 f_X7_gather_144 n)) (nI 83) (nI i) (nI w) (fM (n3 k i) c) (nI c) r14 (fB (n3 k i) c) S17) else ((f_X7_gather_128 (f_X7_gather_30 f_X7_gather_144 n)) (nI 83) (nI i) (nI w) (fM (n3 k i) c) (nI c) r14 (((100 * (nI c / 25)) + (10 * (mRem (nI c / 5) 5))) + (mRem (nI c) 5)) S17))
    refine ⟨T1, ⟨a1, a2, FA_tr q4 a3⟩, ?_⟩
    show f_X7_gather_30 f_X7_gather_144 (n + 1) _ _ _ _ _ _ T = _
    rw [f_X7_gather_30_s]
    simp (maxDischargeDepth := 40) only [le, if_false]
    refine Eq.trans a4 ?_
    have gg := fM_g (g := n3 k i) (j := c) (fun j => n3_lt v)
    have cdv : ((100 * (nI c / 25)) + (10 * (mRem (nI c / 5) 5))) + (mRem (nI c) 5) = nI (cd3 c) := by
      rw [t.2.2.2.2.2.1, t.2.2.2.2.2.2, t.2.2.2.1, m1, m2, nI_add, nI_add]
      rfl
    rw [cdv]
    simp (maxDischargeDepth := 40) only [fM_le (g := n3 k i) (j := c) (fun j => n3_lt v), f_X7_gather_128, gg, nI_1, mCp_e, mC_e, mCv_e, mZ_0, mZ_1, mZ_ifb, if_true, if_false, n10, eq_self, reduceCtorEq, Bool.false_eq_true, Nat.add_zero, Nat.reduceAdd]
    have b3 : fB (n3 k i) (c + 1) = nI (cd3 (fm (n3 k i) (c + 1))) := if_neg (by omega)
    rw [b3, fM_s.2]
    by_cases z : 0 < c ∧ n3 k i c ≤ n3 k i (fm (n3 k i) c)
    · have b4 : fB (n3 k i) c = nI (cd3 (fm (n3 k i) c)) := if_neg (by omega)
      simp (maxDischargeDepth := 40) only [if_pos z, b4]
    · simp (maxDischargeDepth := 40) only [if_neg z]) 1000 S ⟨hL, mk.2.1, FA_rf⟩ (by decide)
  refine ⟨S2, ?_, p2, p3, p4⟩
  refine Eq.trans e ?_
  have le5 : ((125 : Int32) ≤ nI 125) = True := by decide
  have b3 : fM (n3 k i) 125 = nI (n3 k i (fm (n3 k i) 125)) := rfl
  have b4 : fB (n3 k i) 125 = nI (cd3 (fm (n3 k i) 125)) := rfl
  rw [f_X7_gather_30_s, b3, b4]
  rcases (show w = 0 ∨ w = 1 by omega) with rfl | rfl
  · simp (maxDischargeDepth := 40) only [le5, f_X7_gather_144, f_X7_gather_154, litz, mCp_e, mC_e, mCv_e, mZ_0, mZ_1, mZ_ifb, if_true, if_false, n10, eq_self, reduceCtorEq, Bool.false_eq_true, Nat.add_zero, Nat.reduceAdd]
  · simp (maxDischargeDepth := 40) only [le5, f_X7_gather_144, f_X7_gather_154, litz, Nat.one_ne_zero, mCp_e, mC_e, mCv_e, mZ_0, mZ_1, mZ_ifb, if_true, if_false, n10, eq_self, reduceCtorEq, Bool.false_eq_true, Nat.add_zero, Nat.reduceAdd]
theorem o_gather {S : mS} (H : Inv S) (v1 v2 : Int32) : Agr (f_X6_gather (nI 0) v1 v2) (f_X7_gather (nI 83) v1 v2) S := by
  obtain ⟨k, I⟩ := Inv_k H
  have hL := I.1
  have hv : VH k.h := I.2.1.1
  have hr : RH S 2 k.h := I.2.2.1.2.1
  have hm : MK S k := I.2.2.2.1
  have hq : RM S k.h := hm.2.1
  have ho : HO 2 := Or.inl rfl
  have hw := hv.1
  have hf := hv.2.1
  have w7 : k.h.w ≤ 7 := by omega
  cases c1 : dN k.h.w v1 with
  | false =>
    exact Agr_ref (v := -2) 0 (by decide) I (by simp (maxDischargeDepth := 40) only [f_X6_gather, f_X6_gather_23, hL, gc_0, gc_1, gc_2, gc_3, gc_4, gc_5, Ly_put, kcf, kca, x_hasW _ ho hL hr w7, x_hasS _ ho hL hr hf, x_cell, x_kind, x_iscall, x_isimage, i_in, c1, x_bad hL, mCp_e, mC_e, mCv_e, mZ_0, mZ_1, mZ_ifb, if_true, if_false, n10, eq_self, reduceCtorEq, Bool.false_eq_true, Nat.add_zero, Nat.reduceAdd]) (fun S1 hL1 hm1 => by simp (maxDischargeDepth := 40) only [f_X7_gather, f_X7_gather_17, hL1, gc_0, gc_1, gc_2, gc_3, gc_4, gc_5, Ly_put, kcf, kca, y_hasW _ hL1 hm1.2.1 w7, y_hasS _ hL1 hm1.2.1 hf, y_cell, y_iscall, i_in, c1, y_bad hL1, mCp_e, mC_e, mCv_e, mZ_0, mZ_1, mZ_ifb, if_true, if_false, n10, eq_self, reduceCtorEq, Bool.false_eq_true, Nat.add_zero, Nat.reduceAdd])
  | true =>
    cases c2 : dN 2 v2 with
    | false =>
      exact Agr_ref (v := -2) 0 (by decide) I (by simp (maxDischargeDepth := 40) only [f_X6_gather, f_X6_gather_23, hL, gc_0, gc_1, gc_2, gc_3, gc_4, gc_5, Ly_put, kcf, kca, x_hasW _ ho hL hr w7, x_hasS _ ho hL hr hf, x_cell, x_kind, x_iscall, x_isimage, i_in, c1, c2, x_bad hL, mCp_e, mC_e, mCv_e, mZ_0, mZ_1, mZ_ifb, if_true, if_false, n10, eq_self, reduceCtorEq, Bool.false_eq_true, Nat.add_zero, Nat.reduceAdd]) (fun S1 hL1 hm1 => by simp (maxDischargeDepth := 40) only [f_X7_gather, f_X7_gather_17, hL1, gc_0, gc_1, gc_2, gc_3, gc_4, gc_5, Ly_put, kcf, kca, y_hasW _ hL1 hm1.2.1 w7, y_hasS _ hL1 hm1.2.1 hf, y_cell, y_iscall, i_in, c1, c2, y_bad hL1, mCp_e, mC_e, mCv_e, mZ_0, mZ_1, mZ_ifb, if_true, if_false, n10, eq_self, reduceCtorEq, Bool.false_eq_true, Nat.add_zero, Nat.reduceAdd])
    | true =>
      obtain ⟨i, hi, rfl⟩ := dN_some c1 (by omega)
      obtain ⟨w, hw2, rfl⟩ := dN_some c2 (by decide)
      obtain ⟨S1, x1, x2, x3⟩ := x_gath hL I.2.1 I.2.2.1 hi hw2
      refine Agr_k I I.2.1 (r := if w = 0 then nI (n3 k i (fm (n3 k i) 125)) else nI (cd3 (fm (n3 k i) 125))) ⟨S1, by simp (maxDischargeDepth := 40) only [f_X6_gather, hL, gc_0, gc_1, gc_2, gc_3, gc_4, gc_5, Ly_put, kcf, kca, x_hasW _ ho hL hr w7, x_hasS _ ho hL hr hf, x_cell, x_kind, x_iscall, x_isimage, i_in, c1, c2, x1, mCp_e, mC_e, mCv_e, mZ_0, mZ_1, mZ_ifb, if_true, if_false, n10, eq_self, reduceCtorEq, Bool.false_eq_true, Nat.add_zero, Nat.reduceAdd], x2, CK_sa (x3.sa (by omega)) I.2.2.1, TC_fr x3 (by omega)⟩ (fun S2 hL1 hm1 => ?_)
      obtain ⟨S3, y1, y2, y3, y4⟩ := y_gath hL1 I.2.1 hm1 hi hw2
      exact ⟨S3, by simp (maxDischargeDepth := 40) only [f_X7_gather, hL1, gc_0, gc_1, gc_2, gc_3, gc_4, gc_5, Ly_put, kcf, kca, y_hasW _ hL1 hm1.2.1 w7, y_hasS _ hL1 hm1.2.1 hf, y_cell, y_iscall, i_in, c1, c2, y1, mCp_e, mC_e, mCv_e, mZ_0, mZ_1, mZ_ifb, if_true, if_false, n10, eq_self, reduceCtorEq, Bool.false_eq_true, Nat.add_zero, Nat.reduceAdd], y2, MK_fa y4 hm1 y3, FA_TM y4⟩
