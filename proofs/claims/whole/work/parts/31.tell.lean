/-! which sheep would tell -/
theorem x_mO {S : mS} {k : KS} {s i : Nat} {p : Nat → Bool} (hL : Ly S) (v : VK k) (hr : RH S 2 k.h) (hs : s < k.h.f) (hi : i < k.h.w) : ∃ S1, f_X6_mostToOneCell (nI 0) (nI s) (nI i) (bI p 5) S = some (nI (mAl p (fun d => aG k.h s i d) 5), S1) ∧ Ly S1 ∧ Fr 80 81 S S1 := by
  have ho : HO 2 := Or.inl rfl
  obtain ⟨m, ⟨a, S2⟩, ⟨p1, p2, p3, p4⟩, e⟩ := lupI (fun n j (t : Int32 × mS) => f_X6_mostToOneCell_6 f_X6_mostToOneCell_51 n (nI 0) (nI s) (nI i) (bI p 5) t.1 (nI j) t.2) (fun j (t : Int32 × mS) => t.1 = nI (cnt p j) ∧ Ly t.2 ∧ Fr 80 81 S t.2 ∧ ∀ d, d < j → p d = true → t.2.2.1 80 (cnt p d) = nI (aG k.h s i d)) 5 (by
    rintro n j ⟨a, T⟩ hj ⟨(q1 : a = _), (q2 : Ly T), (q3 : Fr 80 81 S T), (q4 : ∀ d, d < j → p d = true → T.2.1 80 (cnt p d) = _)⟩
    have le : ((5 : Int32) ≤ nI j) = False := eq_false (nI_ge hj (by decide))
    have tbd : tb (bI p 5) j = p j := by rw [bI_tb _ _ (by decide) _ (by omega), decide_eq_true hj, Bool.true_and]
    have cl := cnt_le p j
    have c6 : cnt p j < 6 := by omega
    have hrT : RH T 2 k.h := RH_sa (q3.sa (by omega)) hr
    cases c : p j with
    | false =>
      refine ⟨(a, T), ⟨by rw [cnt_s, c]; exact q1, q2, q3, fun d hd hp => ?_⟩, ?_⟩
      · by_cases ij : d = j
        · rw [ij, c] at hp
          cases hp
        · exact q4 d (by omega) hp
      · show f_X6_mostToOneCell_6 f_X6_mostToOneCell_51 (n + 1) (nI 0) (nI s) (nI i) (bI p 5) a (nI j) T = _
        rw [f_X6_mostToOneCell_6_s]
        simp (maxDischargeDepth := 40) only [le, (x_hasB (v := bI p 5) (show j < 32 by omega)).1, tbd, c, f_X6_mostToOneCell_45, nI_1, mCp_e, mC_e, mCv_e, mZ_0, mZ_1, mZ_ifb, if_true, if_false, n10, eq_self, reduceCtorEq, Bool.false_eq_true, Nat.add_zero, Nat.reduceAdd]
    | true =>
      refine ⟨(nI (cnt p (j + 1)), mPut T 80 (cnt p j) (nI (aG k.h s i j))), ⟨rfl, Ly_put q2 (cst_arr (Or.inl rfl)), Fr_tr q3 (Fr_put (by decide) (by decide)), fun d hd hp => ?_⟩, ?_⟩
      · show (mPut T 80 (cnt p j) (nI (aG k.h s i j))).2.1 80 (cnt p d) = _
        rw [mPut_g]
        by_cases ij : d = j
        · rw [ij, if_pos ⟨rfl, rfl⟩]
        · have h2 := cnt_mono p (show d + 1 ≤ j by omega)
          rw [cnt_s, if_pos hp] at h2
          rw [if_neg (by omega)]
          exact q4 d (by omega) hp
      · show f_X6_mostToOneCell_6 f_X6_mostToOneCell_51 (n + 1) (nI 0) (nI s) (nI i) (bI p 5) a (nI j) T = _
        rw [f_X6_mostToOneCell_6_s, cnt_s, c, q1]
        simp (maxDischargeDepth := 40) only [le, (x_hasB (v := bI p 5) (show j < 32 by omega)).1, tbd, c, f_X6_mostToOneCell_45, q2, gc_0, gc_1, gc_2, gc_3, gc_4, gc_5, Ly_put, kcf, kca, x_sTo ho q2 hrT v.1 hs hi hj, c6, nI_1, mCp_e, mC_e, mCv_e, mZ_0, mZ_1, mZ_ifb, if_true, if_false, n10, eq_self, reduceCtorEq, Bool.false_eq_true, Nat.add_zero, Nat.reduceAdd]) 1000 (nI 0, S) ⟨rfl, hL, Fr_rf, fun i hi => absurd hi (Nat.not_lt_zero i)⟩ (by decide)
  refine ⟨S2, ?_, p2, p3⟩
  unfold f_X6_mostToOneCell
  refine Eq.trans e ?_
  show f_X6_mostToOneCell_6 f_X6_mostToOneCell_51 (m + 1) (nI 0) (nI s) (nI i) (bI p 5) a (nI 5) S2 = _
  have le : ((5 : Int32) ≤ nI 5) = True := by decide
  have p1' : a = nI (cnt p 5) := p1
  have mr := x_mostR (S := S2) (p := p) (val := fun d => aG k.h s i d) (N := 5) p2 (by decide) (fun j hj => by show aG k.h s i j < 1000; have := aG_lt v.1 hs hi hj; omega) p4
  have p2' : Ly S2 := p2
  rw [f_X6_mostToOneCell_6_s]
  simp (maxDischargeDepth := 40) only [le, f_X6_mostToOneCell_51, p2', gc_0, gc_1, gc_2, gc_3, gc_4, gc_5, Ly_put, kcf, kca, p1', mr, mCp_e, mC_e, mCv_e, mZ_0, mZ_1, mZ_ifb, if_true, if_false, n10, eq_self, reduceCtorEq, Bool.false_eq_true, Nat.add_zero, Nat.reduceAdd]
def gT (k : KS) (i s : Nat) : Nat := mAl (fC k i) (fun d => aG k.h s i d) 5
theorem x_tell {S : mS} {k : KS} {i : Nat} (hL : Ly S) (v : VK k) (hr : RH S 2 k.h) (hi : i < k.h.w) (h0 : 0 < k.h.f) : ∃ S1, f_X6_tell_48 f_X6_tell_81 1000 (nI 0) (nI i) (bI (fC k i) 5) 0 S = some (nI (flB (gT k i) k.h.f), S1) ∧ Ly S1 ∧ Fr 80 82 S S1 := by
  have hf := v.1.2.1
  obtain ⟨m, S2, ⟨p2, p3, p4⟩, e⟩ := lupI (fun n j (s : mS) => f_X6_tell_48 f_X6_tell_81 n (nI 0) (nI i) (bI (fC k i) 5) (nI j) s) (fun j (s : mS) => Ly s ∧ Fr 80 82 S s ∧ ∀ q, q < j → s.2.1 81 q = nI (gT k i q)) k.h.f (by
    rintro n j T hj ⟨q2, q3, q4⟩
    have hrT : RH T 2 k.h := RH_sa (q3.sa (by omega)) hr
    have h5 : T.2.1 2 5 = nI k.h.f := hrT.2.1
    have le : (nI k.h.f ≤ nI j) = False := eq_false (nI_ge hj (by omega))
    have j30 : j < 30 := by omega
    obtain ⟨T1, t1, t2, t3⟩ := x_mO (p := fC k i) q2 v hrT hj hi
    refine ⟨mPut T1 81 j (nI (gT k i j)), ⟨Ly_put t2 (cst_arr (Or.inl rfl)), Fr_tr q3 (Fr_tr (Fr_wd t3 (by decide) (by decide)) (Fr_put (by decide) (by decide))), fun q hq => ?_⟩, ?_⟩
    · rw [mPut_g]
      by_cases ij : q = j
      · rw [ij, if_pos ⟨rfl, rfl⟩]
      · rw [if_neg (by omega), t3.2.1 81 (by omega)]
        exact q4 q (by omega)
    · show f_X6_tell_48 f_X6_tell_81 (n + 1) _ _ _ _ T = _
      rw [f_X6_tell_48_s]
      simp (maxDischargeDepth := 40) only [h5, le, q2, gc_0, gc_1, gc_2, gc_3, gc_4, gc_5, Ly_put, kcf, kca, t1, t2, j30, nI_1, mCp_e, mC_e, mCv_e, mZ_0, mZ_1, mZ_ifb, if_true, if_false, n10, eq_self, reduceCtorEq, Bool.false_eq_true, Nat.add_zero, Nat.reduceAdd]
      rfl) 1000 S ⟨hL, Fr_rf, fun i hi => absurd hi (Nat.not_lt_zero i)⟩ (by omega)
  refine ⟨S2, ?_, p2, p3⟩
  refine Eq.trans e ?_
  have hr2 : RH S2 2 k.h := RH_sa (p3.sa (by omega)) hr
  have h5 : S2.2.1 2 5 = nI k.h.f := hr2.2.1
  have fl := x_firstL (S := S2) (g := gT k i) (N := k.h.f) p2 h0 (by omega) (fun o ho => ⟨by have := mAl_le (fC k i) (fun d => aG k.h o i d) 5; show mAl _ _ 5 < 1000; omega, p4 o ho⟩)
  rw [f_X6_tell_48_s]
  simp (maxDischargeDepth := 40) only [h5, ng_i, f_X6_tell_81, p2, gc_0, gc_1, gc_2, gc_3, gc_4, gc_5, Ly_put, kcf, kca, fl, mCp_e, mC_e, mCv_e, mZ_0, mZ_1, mZ_ifb, if_true, if_false, n10, eq_self, reduceCtorEq, Bool.false_eq_true, Nat.add_zero, Nat.reduceAdd]
theorem y_tell {S : mS} {k : KS} {i : Nat} (hL : Ly S) (v : VK k) (hr : RM S k.h) (hi : i < k.h.w) (hb : ¬ bI (fC k i) 5 = 0) : f_X7_tell_28 f_X7_tell_164 1000 (nI 83) (nI i) (bI (fC k i) 5) (-1) 1048576 0 S = some (bB (gT k i) k.h.f, S) := by
  have hf := v.1.2.1
  have g6 : ∀ s, gT k i s ≤ 5 := fun s => mAl_le _ _ _
  have h5 : S.2.1 83 2 = nI k.h.f := hr.2.1
  obtain ⟨m, e⟩ := lup (fun n s => f_X7_tell_28 f_X7_tell_164 n (nI 83) (nI i) (bI (fC k i) 5) (bB (gT k i) s) (nI (bL (gT k i) s)) (nI s) S) k.h.f (fun n s hs => by
    have le : (nI k.h.f ≤ nI s) = False := eq_false (nI_ge hs (by omega))
    have b := bB_s (g := gT k i) (j := s) (by have := g6 s; omega)
    have bl := bL_lt (g := gT k i) (j := s) (fun i _ => by have := g6 i; omega)
    have qe : (nI (bL (gT k i) s) ≤ nI (gT k i s)) = (bL (gT k i) s ≤ gT k i s) := le_i bl (by have := g6 s; omega)
    show f_X7_tell_28 f_X7_tell_164 (n + 1) _ _ _ _ _ _ S = _
    rw [f_X7_tell_28_s, b.1, b.2]
    simp (maxDischargeDepth := 40) only [h5, le, hL, gc_0, gc_1, gc_2, gc_3, gc_4, gc_5, Ly_put, kcf, kca, hb, mCp_e, mC_e, mCv_e, mZ_0, mZ_1, mZ_ifb, if_true, if_false, n10, eq_self, reduceCtorEq, Bool.false_eq_true, Nat.add_zero, Nat.reduceAdd]
    obtain ⟨m2, e2⟩ := lup (fun n2 a => f_X7_tell_47 (f_X7_tell_135 (f_X7_tell_28 f_X7_tell_164 n)) n2 (nI 83) (nI i) (bI (fC k i) 5) (bB (gT k i) s) (nI (bL (gT k i) s)) (nI s) (nI (mx (fun a => if fC k i a = true then cnt (fun b => fC k i b && decide (aG k.h s i b = aG k.h s i a)) 5 else 0) a)) (nI a) S) 5 (fun n2 a ha => by
      have le5 : ((5 : Int32) ≤ nI a) = False := eq_false (nI_ge ha (by decide))
      show f_X7_tell_47 _ (n2 + 1) _ _ _ _ _ _ _ _ S = _
      rw [f_X7_tell_47_s]
      simp (maxDischargeDepth := 40) only [le5, mCp_e, mC_e, mCv_e, mZ_0, mZ_1, mZ_ifb, if_true, if_false, n10, eq_self, reduceCtorEq, Bool.false_eq_true, Nat.add_zero, Nat.reduceAdd]
      obtain ⟨m3, e3⟩ := lup (fun n3 q => f_X7_tell_59 (f_X7_tell_120 (f_X7_tell_47 (f_X7_tell_135 (f_X7_tell_28 f_X7_tell_164 n)) n2)) n3 (nI 83) (nI i) (bI (fC k i) 5) (bB (gT k i) s) (nI (bL (gT k i) s)) (nI s) (nI (mx (fun a => if fC k i a = true then cnt (fun b => fC k i b && decide (aG k.h s i b = aG k.h s i a)) 5 else 0) a)) (nI a) (nI (if fC k i a = true then cnt (fun b => fC k i b && decide (aG k.h s i b = aG k.h s i a)) q else 0)) (nI q) S) 5 (fun n3 q hq => by
        have leq : ((5 : Int32) ≤ nI q) = False := eq_false (nI_ge hq (by decide))
        have tba : tb (bI (fC k i) 5) a = fC k i a := by rw [bI_tb _ _ (by decide) _ (by omega), decide_eq_true ha, Bool.true_and]
        have tbq : tb (bI (fC k i) 5) q = fC k i q := by rw [bI_tb _ _ (by decide) _ (by omega), decide_eq_true hq, Bool.true_and]
        have ee : (nI (aG k.h s i a) = nI (aG k.h s i q)) = (aG k.h s i q = aG k.h s i a) := by
          rw [eq_i (by have := aG_lt v.1 hs hi ha; omega) (by have := aG_lt v.1 hs hi hq; omega)]
          exact propext ⟨Eq.symm, Eq.symm⟩
        show f_X7_tell_59 _ (n3 + 1) _ _ _ _ _ _ _ _ _ _ S = _
        rw [f_X7_tell_59_s, cnt_s]
        simp (maxDischargeDepth := 40) only [leq, hL, gc_0, gc_1, gc_2, gc_3, gc_4, gc_5, Ly_put, kcf, kca, f_X7_tell_110, f_X7_tell_111, (x_hasB (v := bI (fC k i) 5) (show a < 32 by omega)).2, (x_hasB (v := bI (fC k i) 5) (show q < 32 by omega)).2, tba, tbq, y_gTo hL hr v.1 hs hi ha, y_gTo hL hr v.1 hs hi hq, ee, nI_1, mCp_e, mC_e, mCv_e, mZ_0, mZ_1, mZ_ifb, if_true, if_false, n10, eq_self, reduceCtorEq, Bool.false_eq_true, Nat.add_zero, Nat.reduceAdd]
        cases fC k i a
        · simp (maxDischargeDepth := 40) only [mCp_e, mC_e, mCv_e, mZ_0, mZ_1, mZ_ifb, if_true, if_false, n10, eq_self, reduceCtorEq, Bool.false_eq_true, Nat.add_zero, Nat.reduceAdd, Int32.add_zero]
        · cases fC k i q
          · simp (maxDischargeDepth := 40) only [mCp_e, mC_e, mCv_e, mZ_0, mZ_1, mZ_ifb, if_true, if_false, n10, eq_self, reduceCtorEq, Bool.false_eq_true, Nat.add_zero, Nat.reduceAdd, Int32.add_zero, Bool.false_and]
          · by_cases c : aG k.h s i q = aG k.h s i a
            · simp (maxDischargeDepth := 40) only [c, decide_true, Bool.true_and, nI_1, mCp_e, mC_e, mCv_e, mZ_0, mZ_1, mZ_ifb, if_true, if_false, n10, eq_self, reduceCtorEq, Bool.false_eq_true, Nat.add_zero, Nat.reduceAdd]
            · simp (maxDischargeDepth := 40) only [c, decide_false, Bool.true_and, Int32.add_zero, mCp_e, mC_e, mCv_e, mZ_0, mZ_1, mZ_ifb, if_true, if_false, n10, eq_self, reduceCtorEq, Bool.false_eq_true, Nat.add_zero, Nat.reduceAdd]) 1000 (by decide)
      have z0 : nI (if fC k i a = true then cnt (fun b => fC k i b && decide (aG k.h s i b = aG k.h s i a)) 0 else 0) = 0 := by
        cases fC k i a <;> rfl
      simp (maxDischargeDepth := 40) only [z0] at e3
      refine Eq.trans e3 ?_
      have le6 : ((5 : Int32) ≤ nI 5) = True := by decide
      rw [f_X7_tell_59_s]
      have ml := mx_le (g := fun a => if fC k i a = true then cnt (fun b => fC k i b && decide (aG k.h s i b = aG k.h s i a)) 5 else 0) (M := 5) (n := a) (fun j _ => by
        show (if fC k i j = true then cnt _ 5 else 0) ≤ 5
        split
        · exact cnt_le _ _
        · exact Nat.zero_le _)
      have ml2 : (if fC k i a = true then cnt (fun b => fC k i b && decide (aG k.h s i b = aG k.h s i a)) 5 else 0) ≤ 5 := by
        split
        · exact cnt_le _ _
        · exact Nat.zero_le _
      simp (maxDischargeDepth := 40) only [le6, f_X7_tell_120, y_gr (show mx (fun a => if fC k i a = true then cnt (fun b => fC k i b && decide (aG k.h s i b = aG k.h s i a)) 5 else 0) a < 2147483648 by omega) (show (if fC k i a = true then cnt (fun b => fC k i b && decide (aG k.h s i b = aG k.h s i a)) 5 else 0) < 2147483648 by omega), nI_1, mCp_e, mC_e, mCv_e, mZ_0, mZ_1, mZ_ifb, if_true, if_false, n10, eq_self, reduceCtorEq, Bool.false_eq_true, Nat.add_zero, Nat.reduceAdd]
      rw [mx_s]) 1000 (by decide)
    refine Eq.trans e2 ?_
    have le6 : ((5 : Int32) ≤ nI 5) = True := by decide
    rw [f_X7_tell_47_s]
    simp (maxDischargeDepth := 40) only [le6, f_X7_tell_135, f_X7_tell_148, mCp_e, mC_e, mCv_e, mZ_0, mZ_1, mZ_ifb, if_true, if_false, n10, eq_self, reduceCtorEq, Bool.false_eq_true, Nat.add_zero, Nat.reduceAdd]
    rw [show mx (fun a => if fC k i a = true then cnt (fun b => fC k i b && decide (aG k.h s i b = aG k.h s i a)) 5 else 0) 5 = gT k i s from rfl]
    simp (maxDischargeDepth := 40) only [qe, y_le bl (show gT k i s < 2147483648 by have := g6 s; omega), nI_1, mCp_e, mC_e, mCv_e, mZ_0, mZ_1, mZ_ifb, if_true, if_false, n10, eq_self, reduceCtorEq, Bool.false_eq_true, Nat.add_zero, Nat.reduceAdd]
    by_cases c : bL (gT k i) s ≤ gT k i s
    · rw [if_pos c, if_pos c]
    · rw [if_neg c, if_neg c]) 1000 (by omega)
  refine Eq.trans e ?_
  rw [f_X7_tell_28_s]
  simp (maxDischargeDepth := 40) only [h5, ng_i, hL, gc_0, gc_1, gc_2, gc_3, gc_4, gc_5, Ly_put, kcf, kca, f_X7_tell_164, mCp_e, mC_e, mCv_e, mZ_0, mZ_1, mZ_ifb, if_true, if_false, n10, eq_self, reduceCtorEq, Bool.false_eq_true, Nat.add_zero, Nat.reduceAdd]
theorem o_tell {S : mS} (H : Inv S) (v1 : Int32) : Agr (f_X6_tell (nI 0) v1) (f_X7_tell (nI 83) v1) S := by
  obtain ⟨k, I⟩ := Inv_k H
  have hL := I.1
  have hv : VH k.h := I.2.1.1
  have hr : RH S 2 k.h := I.2.2.1.2.1
  have hm : MK S k := I.2.2.2.1
  have hq : RM S k.h := hm.2.1
  have ho : HO 2 := Or.inl rfl
  have hw := hv.1
  have hf := hv.2.1
  have w7 : k.h.w ≤ 7 := by omega
  cases c1 : dN k.h.w v1 with
  | false =>
    exact Agr_ref (v := -2) 0 (by decide) I (by simp (maxDischargeDepth := 40) only [f_X6_tell, hL, gc_0, gc_1, gc_2, gc_3, gc_4, gc_5, Ly_put, kcf, kca, x_hasW _ ho hL hr w7, x_hasS _ ho hL hr hf, x_cell, x_kind, x_iscall, x_isimage, i_in, c1, x_bad hL, mCp_e, mC_e, mCv_e, mZ_0, mZ_1, mZ_ifb, if_true, if_false, n10, eq_self, reduceCtorEq, Bool.false_eq_true, Nat.add_zero, Nat.reduceAdd]) (fun S1 hL1 hm1 => by simp (maxDischargeDepth := 40) only [f_X7_tell, hL1, gc_0, gc_1, gc_2, gc_3, gc_4, gc_5, Ly_put, kcf, kca, y_hasW _ hL1 hm1.2.1 w7, y_hasS _ hL1 hm1.2.1 hf, y_cell, y_iscall, i_in, c1, y_bad hL1, mCp_e, mC_e, mCv_e, mZ_0, mZ_1, mZ_ifb, if_true, if_false, n10, eq_self, reduceCtorEq, Bool.false_eq_true, Nat.add_zero, Nat.reduceAdd])
  | true =>
    obtain ⟨i, hi, rfl⟩ := dN_some c1 (by omega)
    have h5 : S.2.1 2 5 = nI k.h.f := hr.2.1
    have q1 : (nI k.h.f = 0) = (k.h.f = 0) := eq_i (b := 0) (by omega) (by decide)
    by_cases h0 : bI (fC k i) 5 = 0
    · refine Agr_r I (r := -1) (by simp (maxDischargeDepth := 40) only [f_X6_tell, f_X6_tell_44, hL, gc_0, gc_1, gc_2, gc_3, gc_4, gc_5, Ly_put, kcf, kca, x_hasW _ ho hL hr w7, x_hasS _ ho hL hr hf, x_cell, x_kind, x_iscall, x_isimage, i_in, c1, x_fitC hL I.2.1 I.2.2.1 hi, h0, mCp_e, mC_e, mCv_e, mZ_0, mZ_1, mZ_ifb, if_true, if_false, n10, eq_self, reduceCtorEq, Bool.false_eq_true, Nat.add_zero, Nat.reduceAdd]) ?_
      have e : f_X7_tell_28 f_X7_tell_164 1000 (nI 83) (nI i) 0 (-1) 1048576 0 S = some (-1, S) := by
        rw [f_X7_tell_28_s f_X7_tell_164 999]
        simp (maxDischargeDepth := 40) only [hL, gc_0, gc_1, gc_2, gc_3, gc_4, gc_5, Ly_put, kcf, kca, f_X7_tell_164, ite_self, mCp_e, mC_e, mCv_e, mZ_0, mZ_1, mZ_ifb, if_true, if_false, n10, eq_self, reduceCtorEq, Bool.false_eq_true, Nat.add_zero, Nat.reduceAdd]
      simp (maxDischargeDepth := 40) only [f_X7_tell, hL, gc_0, gc_1, gc_2, gc_3, gc_4, gc_5, Ly_put, kcf, kca, y_hasW _ hL hq w7, y_hasS _ hL hq hf, y_cell, y_iscall, i_in, c1, y_cBy hL I.2.1 hm hi, h0, e, mCp_e, mC_e, mCv_e, mZ_0, mZ_1, mZ_ifb, if_true, if_false, n10, eq_self, reduceCtorEq, Bool.false_eq_true, Nat.add_zero, Nat.reduceAdd]
    · by_cases hf0 : k.h.f = 0
      · have c0 : (k.h.f = 0) = True := eq_true hf0
        refine Agr_r I (r := -1) (by simp (maxDischargeDepth := 40) only [f_X6_tell, f_X6_tell_44, hL, gc_0, gc_1, gc_2, gc_3, gc_4, gc_5, Ly_put, kcf, kca, x_hasW _ ho hL hr w7, x_hasS _ ho hL hr hf, x_cell, x_kind, x_iscall, x_isimage, i_in, c1, x_fitC hL I.2.1 I.2.2.1 hi, h0, h5, q1, c0, mCp_e, mC_e, mCv_e, mZ_0, mZ_1, mZ_ifb, if_true, if_false, n10, eq_self, reduceCtorEq, Bool.false_eq_true, Nat.add_zero, Nat.reduceAdd]) ?_
        have e := y_tell hL I.2.1 hq hi h0
        have b0 : bB (gT k i) k.h.f = -1 := if_pos hf0
        rw [b0] at e
        simp (maxDischargeDepth := 40) only [f_X7_tell, hL, gc_0, gc_1, gc_2, gc_3, gc_4, gc_5, Ly_put, kcf, kca, y_hasW _ hL hq w7, y_hasS _ hL hq hf, y_cell, y_iscall, i_in, c1, y_cBy hL I.2.1 hm hi, e, mCp_e, mC_e, mCv_e, mZ_0, mZ_1, mZ_ifb, if_true, if_false, n10, eq_self, reduceCtorEq, Bool.false_eq_true, Nat.add_zero, Nat.reduceAdd]
      · have c0 : (k.h.f = 0) = False := eq_false hf0
        obtain ⟨S1, x1, x2, x3⟩ := x_tell hL I.2.1 hr hi (by omega)
        have b0 : bB (gT k i) k.h.f = nI (flB (gT k i) k.h.f) := if_neg hf0
        exact Agr_k I I.2.1 (r := nI (flB (gT k i) k.h.f)) ⟨S1, by simp (maxDischargeDepth := 40) only [f_X6_tell, hL, gc_0, gc_1, gc_2, gc_3, gc_4, gc_5, Ly_put, kcf, kca, x_hasW _ ho hL hr w7, x_hasS _ ho hL hr hf, x_cell, x_kind, x_iscall, x_isimage, i_in, c1, x_fitC hL I.2.1 I.2.2.1 hi, h0, h5, q1, c0, x1, mCp_e, mC_e, mCv_e, mZ_0, mZ_1, mZ_ifb, if_true, if_false, n10, eq_self, reduceCtorEq, Bool.false_eq_true, Nat.add_zero, Nat.reduceAdd], x2, CK_sa (x3.sa (by omega)) I.2.2.1, TC_fr x3 (by omega)⟩ (fun S2 hL1 hm1 => ⟨S2, by
          have e := y_tell hL1 I.2.1 hm1.2.1 hi h0
          rw [b0] at e
          simp (maxDischargeDepth := 40) only [f_X7_tell, hL1, gc_0, gc_1, gc_2, gc_3, gc_4, gc_5, Ly_put, kcf, kca, y_hasW _ hL1 hm1.2.1 w7, y_hasS _ hL1 hm1.2.1 hf, y_cell, y_iscall, i_in, c1, y_cBy hL1 I.2.1 hm1 hi, e, mCp_e, mC_e, mCv_e, mZ_0, mZ_1, mZ_ifb, if_true, if_false, n10, eq_self, reduceCtorEq, Bool.false_eq_true, Nat.add_zero, Nat.reduceAdd], hL1, hm1, TM_rf⟩)
