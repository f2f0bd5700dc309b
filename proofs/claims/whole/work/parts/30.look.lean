theorem cnt_sur {p : Nat → Bool} {o N : Nat} (h : o < cnt p N) : ∃ i, i < N ∧ p i = true ∧ cnt p i = o := by
  induction N with
  | zero => exact absurd h (Nat.not_lt_zero o)
  | succ N ih =>
    rw [cnt_s] at h
    by_cases c : o < cnt p N
    · obtain ⟨i, h1, h2⟩ := ih c
      exact ⟨i, by omega, h2⟩
    · cases e : p N with
      | false =>
        rw [e, if_neg (by decide)] at h
        omega
      | true =>
        rw [e, if_pos rfl] at h
        exact ⟨N, by omega, e, by omega⟩
/-- the row of the answers: how many of the most are alike -/
theorem x_mostR {S : mS} {p : Nat → Bool} {val : Nat → Nat} {N : Nat} (hL : Ly S) (hN : N ≤ 6) (hv : ∀ j, j < N → val j < 1000) (hr : ∀ j, j < N → p j = true → S.2.1 80 (cnt p j) = nI (val j)) : f_X6_mostAlike (nI 80) (nI (cnt p N)) S = some (nI (mAl p val N)) := by
  have hc := cnt_le p N
  obtain ⟨row, hrow⟩ : ∃ row : Nat → Nat, row = fun o => (S.2.1 80 o).toNatClampNeg := ⟨_, rfl⟩
  have r1 : ∀ j, j < N → p j = true → row (cnt p j) = val j := fun j hj hp => by
    rw [hrow]
    show (S.2.1 80 (cnt p j)).toNatClampNeg = val j
    rw [hr j hj hp, nI_cl (by have := hv j hj; omega)]
  have r2 : ∀ o, o < cnt p N → row o < 1000 ∧ S.2.1 80 o = nI (row o) := fun o ho => by
    obtain ⟨i, h1, h2, h3⟩ := cnt_sur ho
    rw [← h3, r1 i h1 h2]
    exact ⟨hv i h1, hr i h1 h2⟩
  rw [x_mostA hL (by omega) r2]
  congr 2
  unfold mAl
  rw [mx_row (g := fun x => cnt (fun q => decide (row q = x)) (cnt p N)) r1]
  refine mx_eq (fun a ha => ?_)
  show (if p a = true then cnt (fun q => decide (row q = val a)) (cnt p N) else 0) = _
  rw [cnt_row r1]
theorem x_mKKW {S : mS} {p : Nat → Bool} {at_ : Nat} (hL : Ly S) (ha : at_ < 30) : ∃ S1, f_X6_mostKindsAlike (nI 0) 0 (bI p 6) (nI at_) S = some (nI (mAl p (fun kd => pR kd at_) 6), S1) ∧ Ly S1 ∧ Fr 80 81 S S1 := by
  obtain ⟨m, ⟨a, S2⟩, ⟨p1, p2, p3, p4⟩, e⟩ := lupI (fun n j (s : Int32 × mS) => f_X6_mostKindsAlike_6 f_X6_mostKindsAlike_45 n (nI 0) 0 (bI p 6) (nI at_) s.1 (nI j) s.2) (fun j (s : Int32 × mS) => s.1 = nI (cnt p j) ∧ Ly s.2 ∧ Fr 80 81 S s.2 ∧ ∀ i, i < j → p i = true → s.2.2.1 80 (cnt p i) = nI (pR i at_)) 6 (by
    rintro n j ⟨a, T⟩ hj ⟨(q1 : a = _), (q2 : Ly T), (q3 : Fr 80 81 S T), (q4 : ∀ i, i < j → p i = true → T.2.1 80 (cnt p i) = _)⟩
    have le : ((6 : Int32) ≤ nI j) = False := eq_false (nI_ge hj (by decide))
    have tbd : tb (bI p 6) j = p j := by rw [bI_tb _ _ (by decide) _ (by omega), decide_eq_true hj, Bool.true_and]
    have cl := cnt_le p j
    have c6 : cnt p j < 6 := by omega
    cases c : p j with
    | false =>
      refine ⟨(a, T), ⟨by rw [cnt_s, c]; exact q1, q2, q3, fun i hi hp => ?_⟩, ?_⟩
      · by_cases ij : i = j
        · rw [ij, c] at hp
          cases hp
        · exact q4 i (by omega) hp
      · show f_X6_mostKindsAlike_6 f_X6_mostKindsAlike_45 (n + 1) (nI 0) 0 (bI p 6) (nI at_) a (nI j) T = _
        rw [f_X6_mostKindsAlike_6_s]
        simp (maxDischargeDepth := 40) only [le, (x_hasB (v := bI p 6) (show j < 32 by omega)).1, tbd, c, f_X6_mostKindsAlike_39, nI_1, mCp_e, mC_e, mCv_e, mZ_0, mZ_1, mZ_ifb, if_true, if_false, n10, eq_self, reduceCtorEq, Bool.false_eq_true, Nat.add_zero, Nat.reduceAdd]
    | true =>
      refine ⟨(nI (cnt p (j + 1)), mPut T 80 (cnt p j) (nI (pR j at_))), ⟨rfl, Ly_put q2 (cst_arr (Or.inl rfl)), Fr_tr q3 (Fr_put (by decide) (by decide)), fun i hi hp => ?_⟩, ?_⟩
      · show (mPut T 80 (cnt p j) (nI (pR j at_))).2.1 80 (cnt p i) = _
        rw [mPut_g]
        by_cases ij : i = j
        · rw [ij, if_pos ⟨rfl, rfl⟩]
        · have h2 := cnt_mono p (show i + 1 ≤ j by omega)
          rw [cnt_s, if_pos hp] at h2
          rw [if_neg (by omega)]
          exact q4 i (by omega) hp
      · show f_X6_mostKindsAlike_6 f_X6_mostKindsAlike_45 (n + 1) (nI 0) 0 (bI p 6) (nI at_) a (nI j) T = _
        rw [f_X6_mostKindsAlike_6_s, cnt_s, c, q1]
        simp (maxDischargeDepth := 40) only [le, (x_hasB (v := bI p 6) (show j < 32 by omega)).1, tbd, c, f_X6_mostKindsAlike_39, q2, gc_0, gc_1, gc_2, gc_3, gc_4, gc_5, Ly_put, kcf, kca, x_kR (t := at_) hj (by omega), c6, nI_1, mCp_e, mC_e, mCv_e, mZ_0, mZ_1, mZ_ifb, if_true, if_false, n10, eq_self, reduceCtorEq, Bool.false_eq_true, Nat.add_zero, Nat.reduceAdd]) 1000 (nI 0, S) ⟨rfl, hL, Fr_rf, fun i hi => absurd hi (Nat.not_lt_zero i)⟩ (by decide)
  refine ⟨S2, ?_, p2, p3⟩
  unfold f_X6_mostKindsAlike
  refine Eq.trans e ?_
  show f_X6_mostKindsAlike_6 f_X6_mostKindsAlike_45 (m + 1) (nI 0) 0 (bI p 6) (nI at_) a (nI 6) S2 = _
  have le : ((6 : Int32) ≤ nI 6) = True := by decide
  have p1' : a = nI (cnt p 6) := p1
  have mr := x_mostR (S := S2) (p := p) (val := fun kd => pR kd at_) (N := 6) p2 (by decide) (fun j hj => by show pR j at_ < 1000; exact (by have := pR_lt j at_; omega)) p4
  have p2' : Ly S2 := p2
  rw [f_X6_mostKindsAlike_6_s]
  simp (maxDischargeDepth := 40) only [le, f_X6_mostKindsAlike_45, p2', gc_0, gc_1, gc_2, gc_3, gc_4, gc_5, Ly_put, kcf, kca, p1', mr, mCp_e, mC_e, mCv_e, mZ_0, mZ_1, mZ_ifb, if_true, if_false, n10, eq_self, reduceCtorEq, Bool.false_eq_true, Nat.add_zero, Nat.reduceAdd]
theorem x_pBKW {S : mS} {p : Nat → Bool} (hL : Ly S) (h0 : ¬ bI p 6 = 0) : ∃ S1, f_X6_partingKindsBest (nI 0) 0 (bI p 6) 30 S = some (nI (flB (fun a => mAl p (fun kd => pR kd a) 6) 30), S1) ∧ Ly S1 ∧ Fr 80 82 S S1 := by
  obtain ⟨m, S2, ⟨p2, p3, p4⟩, e⟩ := lupI (fun n j (s : mS) => f_X6_partingKindsBest_20 f_X6_partingKindsBest_48 n (nI 0) 0 (bI p 6) (nI 30) (nI j) s) (fun j (s : mS) => Ly s ∧ Fr 80 82 S s ∧ ∀ i, i < j → s.2.1 81 i = nI (mAl p (fun kd => pR kd i) 6)) 30 (by
    rintro n j T hj ⟨q2, q3, q4⟩
    have le : (nI 30 ≤ nI j) = False := eq_false (nI_ge hj (by decide))
    have j30 : j < 30 := by omega
    obtain ⟨T1, t1, t2, t3⟩ := x_mKKW (p := p) q2 hj
    refine ⟨mPut T1 81 j (nI (mAl p (fun kd => pR kd j) 6)), ⟨Ly_put t2 (cst_arr (Or.inl rfl)), Fr_tr q3 (Fr_tr (Fr_wd t3 (by decide) (by decide)) (Fr_put (by decide) (by decide))), fun i hi => ?_⟩, ?_⟩
    · rw [mPut_g]
      by_cases ij : i = j
      · rw [ij, if_pos ⟨rfl, rfl⟩]
      · rw [if_neg (by omega), t3.2.1 81 (by omega)]
        exact q4 i (by omega)
    · show f_X6_partingKindsBest_20 f_X6_partingKindsBest_48 (n + 1) _ _ _ _ _ T = _
      rw [f_X6_partingKindsBest_20_s]
      simp (maxDischargeDepth := 40) only [le, q2, gc_0, gc_1, gc_2, gc_3, gc_4, gc_5, Ly_put, kcf, kca, t1, t2, j30, nI_1, mCp_e, mC_e, mCv_e, mZ_0, mZ_1, mZ_ifb, if_true, if_false, n10, eq_self, reduceCtorEq, Bool.false_eq_true, Nat.add_zero, Nat.reduceAdd]) 1000 S ⟨hL, Fr_rf, fun i hi => absurd hi (Nat.not_lt_zero i)⟩ (by decide)
  refine ⟨S2, ?_, p2, p3⟩
  have ml : ∀ K : Int32 → Option (Int32 × mS), mLe 8 (nI 81) S K = K (nI 30) := fun K => mLe_e hL.1 rfl (by decide)
  have mm : mMin 30 (nI 30) = nI 30 := mMin_i (a := 30) (b := 30) (by decide) (by decide)
  have fl := x_firstL (S := S2) (g := fun a => mAl p (fun kd => pR kd a) 6) (N := 30) p2 (by decide) (by decide) (fun o ho => ⟨by have := mAl_le p (fun kd => pR kd o) 6; show mAl p (fun kd => pR kd o) 6 < 1000; omega, p4 o ho⟩)
  simp (maxDischargeDepth := 40) only [f_X6_partingKindsBest, h0, hL, gc_0, gc_1, gc_2, gc_3, gc_4, gc_5, Ly_put, kcf, kca, ml, mm, mCp_e, mC_e, mCv_e, mZ_0, mZ_1, mZ_ifb, if_true, if_false, n10, eq_self, reduceCtorEq, Bool.false_eq_true, Nat.add_zero, Nat.reduceAdd]
  refine Eq.trans e ?_
  show f_X6_partingKindsBest_20 f_X6_partingKindsBest_48 (m + 1) (nI 0) 0 (bI p 6) (nI 30) (nI 30) S2 = _
  rw [f_X6_partingKindsBest_20_s]
  simp (maxDischargeDepth := 40) only [ng_i, f_X6_partingKindsBest_48, p2, gc_0, gc_1, gc_2, gc_3, gc_4, gc_5, Ly_put, kcf, kca, fl, mCp_e, mC_e, mCv_e, mZ_0, mZ_1, mZ_ifb, if_true, if_false, n10, eq_self, reduceCtorEq, Bool.false_eq_true, Nat.add_zero, Nat.reduceAdd]
theorem y_alKW {p : Nat → Bool} {at_ : Nat} (ha : at_ < 30) : f_X7_alike (bI p 6) 1 (nI at_) = some (nI (mAl p (fun kd => pR kd at_) 6)) := by
  obtain ⟨m, e⟩ := lup (fun n a => f_X7_alike_5 f_X7_alike_119 n (bI p 6) 1 (nI at_) (nI (mx (fun a => if p a = true then cnt (fun b => p b && decide (pR b at_ = pR a at_)) 6 else 0) a)) (nI a)) 6 (fun n a ha6 => by
    have le : ((5 : Int32) < nI a) = False := eq_false (nI_nlt (a := 5) (b := a) (by omega) (by decide))
    show f_X7_alike_5 f_X7_alike_119 (n + 1) _ _ _ _ _ = _
    rw [f_X7_alike_5_s]
    simp (maxDischargeDepth := 40) only [le, (x_reach (t := at_) ha6 (by omega)).2, f_X7_alike_33, mCp_e, mC_e, mCv_e, mZ_0, mZ_1, mZ_ifb, if_true, if_false, n10, eq_self, reduceCtorEq, Bool.false_eq_true, Nat.add_zero, Nat.reduceAdd]
    obtain ⟨m2, e2⟩ := lup (fun n2 q => f_X7_alike_38 (f_X7_alike_106 (f_X7_alike_5 f_X7_alike_119 n)) n2 (bI p 6) 1 (nI at_) (nI (mx (fun a => if p a = true then cnt (fun b => p b && decide (pR b at_ = pR a at_)) 6 else 0) a)) (nI a) (nI (if p a = true then cnt (fun b => p b && decide (pR b at_ = pR a at_)) q else 0)) (nI (pR a at_)) (nI q)) 6 (fun n2 q hq => by
      have le2 : ((5 : Int32) < nI q) = False := eq_false (nI_nlt (a := 5) (b := q) (by omega) (by decide))
      have tba : tb (bI p 6) a = p a := by rw [bI_tb _ _ (by decide) _ (by omega), decide_eq_true ha6, Bool.true_and]
      have tbq : tb (bI p 6) q = p q := by rw [bI_tb _ _ (by decide) _ (by omega), decide_eq_true hq, Bool.true_and]
      have qe : (nI (pR a at_) = nI (pR q at_)) = (pR q at_ = pR a at_) := by
        rw [eq_i (by have := pR_lt a at_; omega) (by have := pR_lt q at_; omega)]
        exact propext ⟨Eq.symm, Eq.symm⟩
      show f_X7_alike_38 _ (n2 + 1) _ _ _ _ _ _ _ _ = _
      rw [f_X7_alike_38_s, cnt_s]
      simp (maxDischargeDepth := 40) only [le2, (x_reach (t := at_) hq (by omega)).2, f_X7_alike_63, f_X7_alike_96, f_X7_alike_97, (x_hasB (v := bI p 6) (show a < 32 by omega)).2, (x_hasB (v := bI p 6) (show q < 32 by omega)).2, tba, tbq, qe, nI_1, mCp_e, mC_e, mCv_e, mZ_0, mZ_1, mZ_ifb, if_true, if_false, n10, eq_self, reduceCtorEq, Bool.false_eq_true, Nat.add_zero, Nat.reduceAdd]
      cases p a
      · simp (maxDischargeDepth := 40) only [mCp_e, mC_e, mCv_e, mZ_0, mZ_1, mZ_ifb, if_true, if_false, n10, eq_self, reduceCtorEq, Bool.false_eq_true, Nat.add_zero, Nat.reduceAdd, Int32.add_zero]
      · cases p q
        · simp (maxDischargeDepth := 40) only [mCp_e, mC_e, mCv_e, mZ_0, mZ_1, mZ_ifb, if_true, if_false, n10, eq_self, reduceCtorEq, Bool.false_eq_true, Nat.add_zero, Nat.reduceAdd, Int32.add_zero, Bool.false_and]
        · by_cases c : pR q at_ = pR a at_
          · simp (maxDischargeDepth := 40) only [c, decide_true, Bool.true_and, nI_1, mCp_e, mC_e, mCv_e, mZ_0, mZ_1, mZ_ifb, if_true, if_false, n10, eq_self, reduceCtorEq, Bool.false_eq_true, Nat.add_zero, Nat.reduceAdd]
          · simp (maxDischargeDepth := 40) only [c, decide_false, Bool.true_and, Int32.add_zero, mCp_e, mC_e, mCv_e, mZ_0, mZ_1, mZ_ifb, if_true, if_false, n10, eq_self, reduceCtorEq, Bool.false_eq_true, Nat.add_zero, Nat.reduceAdd]) 1000 (by decide)
    have z0 : nI (if p a = true then cnt (fun b => p b && decide (pR b at_ = pR a at_)) 0 else 0) = 0 := by
      cases p a <;> rfl
    simp (maxDischargeDepth := 40) only [z0] at e2
    refine Eq.trans e2 ?_
    have le6 : ((5 : Int32) < nI 6) = True := by decide
    rw [f_X7_alike_38_s]
    have ml := mx_le (g := fun a => if p a = true then cnt (fun b => p b && decide (pR b at_ = pR a at_)) 6 else 0) (M := 6) (n := a) (fun i _ => by
      show (if p i = true then cnt _ 6 else 0) ≤ 6
      split
      · exact cnt_le _ _
      · exact Nat.zero_le _)
    have ml2 : (if p a = true then cnt (fun b => p b && decide (pR b at_ = pR a at_)) 6 else 0) ≤ 6 := by
      split
      · exact cnt_le _ _
      · exact Nat.zero_le _
    simp (maxDischargeDepth := 40) only [le6, f_X7_alike_106, y_gr (show mx (fun a => if p a = true then cnt (fun b => p b && decide (pR b at_ = pR a at_)) 6 else 0) a < 2147483648 by omega) (show (if p a = true then cnt (fun b => p b && decide (pR b at_ = pR a at_)) 6 else 0) < 2147483648 by omega), nI_1, mCp_e, mC_e, mCv_e, mZ_0, mZ_1, mZ_ifb, if_true, if_false, n10, eq_self, reduceCtorEq, Bool.false_eq_true, Nat.add_zero, Nat.reduceAdd]
    rw [mx_s]) 1000 (by decide)
  unfold f_X7_alike
  refine Eq.trans e ?_
  have le6 : ((5 : Int32) < nI 6) = True := by decide
  rw [f_X7_alike_5_s]
  simp (maxDischargeDepth := 40) only [le6, f_X7_alike_119, mCp_e, mC_e, mCv_e, mZ_0, mZ_1, mZ_ifb, if_true, if_false, n10, eq_self, reduceCtorEq, Bool.false_eq_true, Nat.add_zero, Nat.reduceAdd]
  rfl
theorem y_pBKW {p : Nat → Bool} (h0 : ¬ bI p 6 = 0) : f_X7_parts (bI p 6) 1 29 = some (nI (flB (fun a => mAl p (fun kd => pR kd a) 6) 30)) := by
  obtain ⟨g, hg⟩ : ∃ g : Nat → Nat, g = fun a => mAl p (fun kd => pR kd a) 6 := ⟨_, rfl⟩
  have g6 : ∀ a, g a ≤ 6 := fun a => by rw [hg]; exact mAl_le _ _ _
  obtain ⟨m, e⟩ := lup (fun n a => f_X7_parts_9 f_X7_parts_57 n (bI p 6) 1 29 (bB g a) (nI (bL g a)) (nI a)) 30 (fun n a ha => by
    have le : ((29 : Int32) < nI a) = False := eq_false (nI_nlt (a := 29) (b := a) (by omega) (by decide))
    have al_ : f_X7_alike (bI p 6) 1 (nI a) = some (nI (g a)) := by rw [hg]; exact y_alKW ha
    have b := bB_s (g := g) (j := a) (by have := g6 a; omega)
    have bl := bL_lt (g := g) (j := a) (fun i _ => by have := g6 i; omega)
    have qe : (nI (bL g a) ≤ nI (g a)) = (bL g a ≤ g a) := le_i bl (by have := g6 a; omega)
    show f_X7_parts_9 f_X7_parts_57 (n + 1) _ _ _ _ _ _ = _
    rw [f_X7_parts_9_s, b.1, b.2]
    simp (maxDischargeDepth := 40) only [le, h0, al_, qe, f_X7_parts_41, y_le bl (show g a < 2147483648 by have := g6 a; omega), nI_1, mCp_e, mC_e, mCv_e, mZ_0, mZ_1, mZ_ifb, if_true, if_false, n10, eq_self, reduceCtorEq, Bool.false_eq_true, Nat.add_zero, Nat.reduceAdd]
    by_cases c : bL g a ≤ g a
    · rw [if_pos c, if_pos c]
    · rw [if_neg c, if_neg c]) 1000 (by decide)
  unfold f_X7_parts
  refine Eq.trans e ?_
  have le : ((29 : Int32) < nI 30) = True := by decide
  rw [f_X7_parts_9_s]
  simp (maxDischargeDepth := 40) only [le, f_X7_parts_57, mCp_e, mC_e, mCv_e, mZ_0, mZ_1, mZ_ifb, if_true, if_false, n10, eq_self, reduceCtorEq, Bool.false_eq_true, Nat.add_zero, Nat.reduceAdd]
  rw [← hg]
  rfl
theorem o_look {S : mS} (H : Inv S) (v1 : Int32) : Agr (f_X6_look (nI 0) v1) (f_X7_look (nI 83) v1) S := by
  obtain ⟨k, I⟩ := Inv_k H
  have hL := I.1
  have hv : VH k.h := I.2.1.1
  have hr : RH S 2 k.h := I.2.2.1.2.1
  have hm : MK S k := I.2.2.2.1
  have hq : RM S k.h := hm.2.1
  have ho : HO 2 := Or.inl rfl
  have hw := hv.1
  have hf := hv.2.1
  have w7 : k.h.w ≤ 7 := by omega
  cases c1 : dN k.h.w v1 with
  | false =>
    exact Agr_ref (v := -2) 0 (by decide) I (by simp (maxDischargeDepth := 40) only [f_X6_look, hL, gc_0, gc_1, gc_2, gc_3, gc_4, gc_5, Ly_put, kcf, kca, x_hasW _ ho hL hr w7, x_hasS _ ho hL hr hf, x_cell, x_kind, x_iscall, x_isimage, i_in, c1, x_bad hL, mCp_e, mC_e, mCv_e, mZ_0, mZ_1, mZ_ifb, if_true, if_false, n10, eq_self, reduceCtorEq, Bool.false_eq_true, Nat.add_zero, Nat.reduceAdd]) (fun S1 hL1 hm1 => by simp (maxDischargeDepth := 40) only [f_X7_look, f_X7_look_26, hL1, gc_0, gc_1, gc_2, gc_3, gc_4, gc_5, Ly_put, kcf, kca, y_hasW _ hL1 hm1.2.1 w7, y_hasS _ hL1 hm1.2.1 hf, y_cell, y_iscall, i_in, c1, y_bad hL1, mCp_e, mC_e, mCv_e, mZ_0, mZ_1, mZ_ifb, if_true, if_false, n10, eq_self, reduceCtorEq, Bool.false_eq_true, Nat.add_zero, Nat.reduceAdd])
  | true =>
    obtain ⟨i, hi, rfl⟩ := dN_some c1 (by omega)
    have i7 : i < 7 := by omega
    by_cases h0 : bI (sKW k i) 6 = 0
    · refine Agr_r I (r := -1) (by simp (maxDischargeDepth := 40) only [f_X6_look, hL, gc_0, gc_1, gc_2, gc_3, gc_4, gc_5, Ly_put, kcf, kca, x_hasW _ ho hL hr w7, x_hasS _ ho hL hr hf, x_cell, x_kind, x_iscall, x_isimage, i_in, c1, x_kdsKW hL I.2.1 I.2.2.1 i7, f_X6_partingKindsBest, h0, mCp_e, mC_e, mCv_e, mZ_0, mZ_1, mZ_ifb, if_true, if_false, n10, eq_self, reduceCtorEq, Bool.false_eq_true, Nat.add_zero, Nat.reduceAdd]) ?_
      have e : f_X7_parts (bI (sKW k i) 6) 1 29 = some (-1) := by
        unfold f_X7_parts
        rw [f_X7_parts_9_s f_X7_parts_57 999]
        simp (maxDischargeDepth := 40) only [h0, f_X7_parts_57, mCp_e, mC_e, mCv_e, mZ_0, mZ_1, mZ_ifb, if_true, if_false, n10, eq_self, reduceCtorEq, Bool.false_eq_true, Nat.add_zero, Nat.reduceAdd]
        rfl
      simp (maxDischargeDepth := 40) only [f_X7_look, f_X7_look_26, hL, gc_0, gc_1, gc_2, gc_3, gc_4, gc_5, Ly_put, kcf, kca, y_hasW _ hL hq w7, y_hasS _ hL hq hf, y_cell, y_iscall, i_in, c1, y_kdsKW hL I.2.1 hm i7, e, mCp_e, mC_e, mCv_e, mZ_0, mZ_1, mZ_ifb, if_true, if_false, n10, eq_self, reduceCtorEq, Bool.false_eq_true, Nat.add_zero, Nat.reduceAdd]
    · obtain ⟨S1, x1, x2, x3⟩ := x_pBKW hL h0
      exact Agr_k I I.2.1 (r := nI (flB (fun a => mAl (sKW k i) (fun kd => pR kd a) 6) 30)) ⟨S1, by simp (maxDischargeDepth := 40) only [f_X6_look, hL, gc_0, gc_1, gc_2, gc_3, gc_4, gc_5, Ly_put, kcf, kca, x_hasW _ ho hL hr w7, x_hasS _ ho hL hr hf, x_cell, x_kind, x_iscall, x_isimage, i_in, c1, x_kdsKW hL I.2.1 I.2.2.1 i7, x1, mCp_e, mC_e, mCv_e, mZ_0, mZ_1, mZ_ifb, if_true, if_false, n10, eq_self, reduceCtorEq, Bool.false_eq_true, Nat.add_zero, Nat.reduceAdd], x2, CK_sa (x3.sa (by omega)) I.2.2.1, TC_fr x3 (by omega)⟩ (fun S2 hL1 hm1 => ⟨S2, by simp (maxDischargeDepth := 40) only [f_X7_look, f_X7_look_26, hL1, gc_0, gc_1, gc_2, gc_3, gc_4, gc_5, Ly_put, kcf, kca, y_hasW _ hL1 hm1.2.1 w7, y_hasS _ hL1 hm1.2.1 hf, y_cell, y_iscall, i_in, c1, y_kdsKW hL1 I.2.1 hm1 i7, y_pBKW h0, mCp_e, mC_e, mCv_e, mZ_0, mZ_1, mZ_ifb, if_true, if_false, n10, eq_self, reduceCtorEq, Bool.false_eq_true, Nat.add_zero, Nat.reduceAdd], hL1, hm1, TM_rf⟩)
theorem x_mKKK {S : mS} {p : Nat → Bool} {at_ : Nat} (hL : Ly S) (ha : at_ < 9) : ∃ S1, f_X6_mostKindsAlike (nI 0) 1 (bI p 6) (nI at_) S = some (nI (mAl p (fun kd => pS kd at_) 6), S1) ∧ Ly S1 ∧ Fr 80 81 S S1 := by
  obtain ⟨m, ⟨a, S2⟩, ⟨p1, p2, p3, p4⟩, e⟩ := lupI (fun n j (s : Int32 × mS) => f_X6_mostKindsAlike_6 f_X6_mostKindsAlike_45 n (nI 0) 1 (bI p 6) (nI at_) s.1 (nI j) s.2) (fun j (s : Int32 × mS) => s.1 = nI (cnt p j) ∧ Ly s.2 ∧ Fr 80 81 S s.2 ∧ ∀ i, i < j → p i = true → s.2.2.1 80 (cnt p i) = nI (pS i at_)) 6 (by
    rintro n j ⟨a, T⟩ hj ⟨(q1 : a = _), (q2 : Ly T), (q3 : Fr 80 81 S T), (q4 : ∀ i, i < j → p i = true → T.2.1 80 (cnt p i) = _)⟩
    have le : ((6 : Int32) ≤ nI j) = False := eq_false (nI_ge hj (by decide))
    have tbd : tb (bI p 6) j = p j := by rw [bI_tb _ _ (by decide) _ (by omega), decide_eq_true hj, Bool.true_and]
    have cl := cnt_le p j
    have c6 : cnt p j < 6 := by omega
    cases c : p j with
    | false =>
      refine ⟨(a, T), ⟨by rw [cnt_s, c]; exact q1, q2, q3, fun i hi hp => ?_⟩, ?_⟩
      · by_cases ij : i = j
        · rw [ij, c] at hp
          cases hp
        · exact q4 i (by omega) hp
      · show f_X6_mostKindsAlike_6 f_X6_mostKindsAlike_45 (n + 1) (nI 0) 1 (bI p 6) (nI at_) a (nI j) T = _
        rw [f_X6_mostKindsAlike_6_s]
        simp (maxDischargeDepth := 40) only [le, (x_hasB (v := bI p 6) (show j < 32 by omega)).1, tbd, c, f_X6_mostKindsAlike_39, nI_1, mCp_e, mC_e, mCv_e, mZ_0, mZ_1, mZ_ifb, if_true, if_false, n10, eq_self, reduceCtorEq, Bool.false_eq_true, Nat.add_zero, Nat.reduceAdd]
    | true =>
      refine ⟨(nI (cnt p (j + 1)), mPut T 80 (cnt p j) (nI (pS j at_))), ⟨rfl, Ly_put q2 (cst_arr (Or.inl rfl)), Fr_tr q3 (Fr_put (by decide) (by decide)), fun i hi hp => ?_⟩, ?_⟩
      · show (mPut T 80 (cnt p j) (nI (pS j at_))).2.1 80 (cnt p i) = _
        rw [mPut_g]
        by_cases ij : i = j
        · rw [ij, if_pos ⟨rfl, rfl⟩]
        · have h2 := cnt_mono p (show i + 1 ≤ j by omega)
          rw [cnt_s, if_pos hp] at h2
          rw [if_neg (by omega)]
          exact q4 i (by omega) hp
      · show f_X6_mostKindsAlike_6 f_X6_mostKindsAlike_45 (n + 1) (nI 0) 1 (bI p 6) (nI at_) a (nI j) T = _
        rw [f_X6_mostKindsAlike_6_s, cnt_s, c, q1]
        simp (maxDischargeDepth := 40) only [le, (x_hasB (v := bI p 6) (show j < 32 by omega)).1, tbd, c, f_X6_mostKindsAlike_39, q2, gc_0, gc_1, gc_2, gc_3, gc_4, gc_5, Ly_put, kcf, kca, x_kS (t := at_) hj ha, c6, nI_1, mCp_e, mC_e, mCv_e, mZ_0, mZ_1, mZ_ifb, if_true, if_false, n10, eq_self, reduceCtorEq, Bool.false_eq_true, Nat.add_zero, Nat.reduceAdd]) 1000 (nI 0, S) ⟨rfl, hL, Fr_rf, fun i hi => absurd hi (Nat.not_lt_zero i)⟩ (by decide)
  refine ⟨S2, ?_, p2, p3⟩
  unfold f_X6_mostKindsAlike
  refine Eq.trans e ?_
  show f_X6_mostKindsAlike_6 f_X6_mostKindsAlike_45 (m + 1) (nI 0) 1 (bI p 6) (nI at_) a (nI 6) S2 = _
  have le : ((6 : Int32) ≤ nI 6) = True := by decide
  have p1' : a = nI (cnt p 6) := p1
  have mr := x_mostR (S := S2) (p := p) (val := fun kd => pS kd at_) (N := 6) p2 (by decide) (fun j hj => by show pS j at_ < 1000; exact (by have := (x_sreach j hj at_ ha).2.2; omega)) p4
  have p2' : Ly S2 := p2
  rw [f_X6_mostKindsAlike_6_s]
  simp (maxDischargeDepth := 40) only [le, f_X6_mostKindsAlike_45, p2', gc_0, gc_1, gc_2, gc_3, gc_4, gc_5, Ly_put, kcf, kca, p1', mr, mCp_e, mC_e, mCv_e, mZ_0, mZ_1, mZ_ifb, if_true, if_false, n10, eq_self, reduceCtorEq, Bool.false_eq_true, Nat.add_zero, Nat.reduceAdd]
theorem x_pBKK {S : mS} {p : Nat → Bool} (hL : Ly S) (h0 : ¬ bI p 6 = 0) : ∃ S1, f_X6_partingKindsBest (nI 0) 1 (bI p 6) 9 S = some (nI (flB (fun a => mAl p (fun kd => pS kd a) 6) 9), S1) ∧ Ly S1 ∧ Fr 80 82 S S1 := by
  obtain ⟨m, S2, ⟨p2, p3, p4⟩, e⟩ := lupI (fun n j (s : mS) => f_X6_partingKindsBest_20 f_X6_partingKindsBest_48 n (nI 0) 1 (bI p 6) (nI 9) (nI j) s) (fun j (s : mS) => Ly s ∧ Fr 80 82 S s ∧ ∀ i, i < j → s.2.1 81 i = nI (mAl p (fun kd => pS kd i) 6)) 9 (by
    rintro n j T hj ⟨q2, q3, q4⟩
    have le : (nI 9 ≤ nI j) = False := eq_false (nI_ge hj (by decide))
    have j30 : j < 30 := by omega
    obtain ⟨T1, t1, t2, t3⟩ := x_mKKK (p := p) q2 hj
    refine ⟨mPut T1 81 j (nI (mAl p (fun kd => pS kd j) 6)), ⟨Ly_put t2 (cst_arr (Or.inl rfl)), Fr_tr q3 (Fr_tr (Fr_wd t3 (by decide) (by decide)) (Fr_put (by decide) (by decide))), fun i hi => ?_⟩, ?_⟩
    · rw [mPut_g]
      by_cases ij : i = j
      · rw [ij, if_pos ⟨rfl, rfl⟩]
      · rw [if_neg (by omega), t3.2.1 81 (by omega)]
        exact q4 i (by omega)
    · show f_X6_partingKindsBest_20 f_X6_partingKindsBest_48 (n + 1) _ _ _ _ _ T = _
      rw [f_X6_partingKindsBest_20_s]
      simp (maxDischargeDepth := 40) only [le, q2, gc_0, gc_1, gc_2, gc_3, gc_4, gc_5, Ly_put, kcf, kca, t1, t2, j30, nI_1, mCp_e, mC_e, mCv_e, mZ_0, mZ_1, mZ_ifb, if_true, if_false, n10, eq_self, reduceCtorEq, Bool.false_eq_true, Nat.add_zero, Nat.reduceAdd]) 1000 S ⟨hL, Fr_rf, fun i hi => absurd hi (Nat.not_lt_zero i)⟩ (by decide)
  refine ⟨S2, ?_, p2, p3⟩
  have ml : ∀ K : Int32 → Option (Int32 × mS), mLe 8 (nI 81) S K = K (nI 30) := fun K => mLe_e hL.1 rfl (by decide)
  have mm : mMin 9 (nI 30) = nI 9 := mMin_i (a := 9) (b := 30) (by decide) (by decide)
  have fl := x_firstL (S := S2) (g := fun a => mAl p (fun kd => pS kd a) 6) (N := 9) p2 (by decide) (by decide) (fun o ho => ⟨by have := mAl_le p (fun kd => pS kd o) 6; show mAl p (fun kd => pS kd o) 6 < 1000; omega, p4 o ho⟩)
  simp (maxDischargeDepth := 40) only [f_X6_partingKindsBest, h0, hL, gc_0, gc_1, gc_2, gc_3, gc_4, gc_5, Ly_put, kcf, kca, ml, mm, mCp_e, mC_e, mCv_e, mZ_0, mZ_1, mZ_ifb, if_true, if_false, n10, eq_self, reduceCtorEq, Bool.false_eq_true, Nat.add_zero, Nat.reduceAdd]
  refine Eq.trans e ?_
  show f_X6_partingKindsBest_20 f_X6_partingKindsBest_48 (m + 1) (nI 0) 1 (bI p 6) (nI 9) (nI 9) S2 = _
  rw [f_X6_partingKindsBest_20_s]
  simp (maxDischargeDepth := 40) only [ng_i, f_X6_partingKindsBest_48, p2, gc_0, gc_1, gc_2, gc_3, gc_4, gc_5, Ly_put, kcf, kca, fl, mCp_e, mC_e, mCv_e, mZ_0, mZ_1, mZ_ifb, if_true, if_false, n10, eq_self, reduceCtorEq, Bool.false_eq_true, Nat.add_zero, Nat.reduceAdd]
theorem y_alKK {p : Nat → Bool} {at_ : Nat} (ha : at_ < 9) : f_X7_alike (bI p 6) 0 (nI at_) = some (nI (mAl p (fun kd => pS kd at_) 6)) := by
  obtain ⟨m, e⟩ := lup (fun n a => f_X7_alike_5 f_X7_alike_119 n (bI p 6) 0 (nI at_) (nI (mx (fun a => if p a = true then cnt (fun b => p b && decide (pS b at_ = pS a at_)) 6 else 0) a)) (nI a)) 6 (fun n a ha6 => by
    have le : ((5 : Int32) < nI a) = False := eq_false (nI_nlt (a := 5) (b := a) (by omega) (by decide))
    show f_X7_alike_5 f_X7_alike_119 (n + 1) _ _ _ _ _ = _
    rw [f_X7_alike_5_s]
    simp (maxDischargeDepth := 40) only [le, (x_sreach a ha6 at_ ha).2.1, f_X7_alike_33, mCp_e, mC_e, mCv_e, mZ_0, mZ_1, mZ_ifb, if_true, if_false, n10, eq_self, reduceCtorEq, Bool.false_eq_true, Nat.add_zero, Nat.reduceAdd]
    obtain ⟨m2, e2⟩ := lup (fun n2 q => f_X7_alike_38 (f_X7_alike_106 (f_X7_alike_5 f_X7_alike_119 n)) n2 (bI p 6) 0 (nI at_) (nI (mx (fun a => if p a = true then cnt (fun b => p b && decide (pS b at_ = pS a at_)) 6 else 0) a)) (nI a) (nI (if p a = true then cnt (fun b => p b && decide (pS b at_ = pS a at_)) q else 0)) (nI (pS a at_)) (nI q)) 6 (fun n2 q hq => by
      have le2 : ((5 : Int32) < nI q) = False := eq_false (nI_nlt (a := 5) (b := q) (by omega) (by decide))
      have tba : tb (bI p 6) a = p a := by rw [bI_tb _ _ (by decide) _ (by omega), decide_eq_true ha6, Bool.true_and]
      have tbq : tb (bI p 6) q = p q := by rw [bI_tb _ _ (by decide) _ (by omega), decide_eq_true hq, Bool.true_and]
      have qe : (nI (pS a at_) = nI (pS q at_)) = (pS q at_ = pS a at_) := by
        rw [eq_i (by have := (x_sreach a ha6 at_ ha).2.2; omega) (by have := (x_sreach q hq at_ ha).2.2; omega)]
        exact propext ⟨Eq.symm, Eq.symm⟩
      show f_X7_alike_38 _ (n2 + 1) _ _ _ _ _ _ _ _ = _
      rw [f_X7_alike_38_s, cnt_s]
      simp (maxDischargeDepth := 40) only [le2, (x_sreach q hq at_ ha).2.1, f_X7_alike_63, f_X7_alike_96, f_X7_alike_97, (x_hasB (v := bI p 6) (show a < 32 by omega)).2, (x_hasB (v := bI p 6) (show q < 32 by omega)).2, tba, tbq, qe, nI_1, mCp_e, mC_e, mCv_e, mZ_0, mZ_1, mZ_ifb, if_true, if_false, n10, eq_self, reduceCtorEq, Bool.false_eq_true, Nat.add_zero, Nat.reduceAdd]
      cases p a
      · simp (maxDischargeDepth := 40) only [mCp_e, mC_e, mCv_e, mZ_0, mZ_1, mZ_ifb, if_true, if_false, n10, eq_self, reduceCtorEq, Bool.false_eq_true, Nat.add_zero, Nat.reduceAdd, Int32.add_zero]
      · cases p q
        · simp (maxDischargeDepth := 40) only [mCp_e, mC_e, mCv_e, mZ_0, mZ_1, mZ_ifb, if_true, if_false, n10, eq_self, reduceCtorEq, Bool.false_eq_true, Nat.add_zero, Nat.reduceAdd, Int32.add_zero, Bool.false_and]
        · by_cases c : pS q at_ = pS a at_
          · simp (maxDischargeDepth := 40) only [c, decide_true, Bool.true_and, nI_1, mCp_e, mC_e, mCv_e, mZ_0, mZ_1, mZ_ifb, if_true, if_false, n10, eq_self, reduceCtorEq, Bool.false_eq_true, Nat.add_zero, Nat.reduceAdd]
          · simp (maxDischargeDepth := 40) only [c, decide_false, Bool.true_and, Int32.add_zero, mCp_e, mC_e, mCv_e, mZ_0, mZ_1, mZ_ifb, if_true, if_false, n10, eq_self, reduceCtorEq, Bool.false_eq_true, Nat.add_zero, Nat.reduceAdd]) 1000 (by decide)
    have z0 : nI (if p a = true then cnt (fun b => p b && decide (pS b at_ = pS a at_)) 0 else 0) = 0 := by
      cases p a <;> rfl
    simp (maxDischargeDepth := 40) only [z0] at e2
    refine Eq.trans e2 ?_
    have le6 : ((5 : Int32) < nI 6) = True := by decide
    rw [f_X7_alike_38_s]
    have ml := mx_le (g := fun a => if p a = true then cnt (fun b => p b && decide (pS b at_ = pS a at_)) 6 else 0) (M := 6) (n := a) (fun i _ => by
      show (if p i = true then cnt _ 6 else 0) ≤ 6
      split
      · exact cnt_le _ _
      · exact Nat.zero_le _)
    have ml2 : (if p a = true then cnt (fun b => p b && decide (pS b at_ = pS a at_)) 6 else 0) ≤ 6 := by
      split
      · exact cnt_le _ _
      · exact Nat.zero_le _
    simp (maxDischargeDepth := 40) only [le6, f_X7_alike_106, y_gr (show mx (fun a => if p a = true then cnt (fun b => p b && decide (pS b at_ = pS a at_)) 6 else 0) a < 2147483648 by omega) (show (if p a = true then cnt (fun b => p b && decide (pS b at_ = pS a at_)) 6 else 0) < 2147483648 by omega), nI_1, mCp_e, mC_e, mCv_e, mZ_0, mZ_1, mZ_ifb, if_true, if_false, n10, eq_self, reduceCtorEq, Bool.false_eq_true, Nat.add_zero, Nat.reduceAdd]
    rw [mx_s]) 1000 (by decide)
  unfold f_X7_alike
  refine Eq.trans e ?_
  have le6 : ((5 : Int32) < nI 6) = True := by decide
  rw [f_X7_alike_5_s]
  simp (maxDischargeDepth := 40) only [le6, f_X7_alike_119, mCp_e, mC_e, mCv_e, mZ_0, mZ_1, mZ_ifb, if_true, if_false, n10, eq_self, reduceCtorEq, Bool.false_eq_true, Nat.add_zero, Nat.reduceAdd]
  rfl
theorem y_pBKK {p : Nat → Bool} (h0 : ¬ bI p 6 = 0) : f_X7_parts (bI p 6) 0 8 = some (nI (flB (fun a => mAl p (fun kd => pS kd a) 6) 9)) := by
  obtain ⟨g, hg⟩ : ∃ g : Nat → Nat, g = fun a => mAl p (fun kd => pS kd a) 6 := ⟨_, rfl⟩
  have g6 : ∀ a, g a ≤ 6 := fun a => by rw [hg]; exact mAl_le _ _ _
  obtain ⟨m, e⟩ := lup (fun n a => f_X7_parts_9 f_X7_parts_57 n (bI p 6) 0 8 (bB g a) (nI (bL g a)) (nI a)) 9 (fun n a ha => by
    have le : ((8 : Int32) < nI a) = False := eq_false (nI_nlt (a := 8) (b := a) (by omega) (by decide))
    have al_ : f_X7_alike (bI p 6) 0 (nI a) = some (nI (g a)) := by rw [hg]; exact y_alKK ha
    have b := bB_s (g := g) (j := a) (by have := g6 a; omega)
    have bl := bL_lt (g := g) (j := a) (fun i _ => by have := g6 i; omega)
    have qe : (nI (bL g a) ≤ nI (g a)) = (bL g a ≤ g a) := le_i bl (by have := g6 a; omega)
    show f_X7_parts_9 f_X7_parts_57 (n + 1) _ _ _ _ _ _ = _
    rw [f_X7_parts_9_s, b.1, b.2]
    simp (maxDischargeDepth := 40) only [le, h0, al_, qe, f_X7_parts_41, y_le bl (show g a < 2147483648 by have := g6 a; omega), nI_1, mCp_e, mC_e, mCv_e, mZ_0, mZ_1, mZ_ifb, if_true, if_false, n10, eq_self, reduceCtorEq, Bool.false_eq_true, Nat.add_zero, Nat.reduceAdd]
    by_cases c : bL g a ≤ g a
    · rw [if_pos c, if_pos c]
    · rw [if_neg c, if_neg c]) 1000 (by decide)
  unfold f_X7_parts
  refine Eq.trans e ?_
  have le : ((8 : Int32) < nI 9) = True := by decide
  rw [f_X7_parts_9_s]
  simp (maxDischargeDepth := 40) only [le, f_X7_parts_57, mCp_e, mC_e, mCv_e, mZ_0, mZ_1, mZ_ifb, if_true, if_false, n10, eq_self, reduceCtorEq, Bool.false_eq_true, Nat.add_zero, Nat.reduceAdd]
  rw [← hg]
  rfl
theorem o_ask {S : mS} (H : Inv S) (v1 : Int32) : Agr (f_X6_ask (nI 0) v1) (f_X7_ask (nI 83) v1) S := by
  obtain ⟨k, I⟩ := Inv_k H
  have hL := I.1
  have hv : VH k.h := I.2.1.1
  have hr : RH S 2 k.h := I.2.2.1.2.1
  have hm : MK S k := I.2.2.2.1
  have hq : RM S k.h := hm.2.1
  have ho : HO 2 := Or.inl rfl
  have hw := hv.1
  have hf := hv.2.1
  have w7 : k.h.w ≤ 7 := by omega
  cases c1 : dN k.h.f v1 with
  | false =>
    exact Agr_ref (v := -2) 0 (by decide) I (by simp (maxDischargeDepth := 40) only [f_X6_ask, hL, gc_0, gc_1, gc_2, gc_3, gc_4, gc_5, Ly_put, kcf, kca, x_hasW _ ho hL hr w7, x_hasS _ ho hL hr hf, x_cell, x_kind, x_iscall, x_isimage, i_in, c1, x_bad hL, mCp_e, mC_e, mCv_e, mZ_0, mZ_1, mZ_ifb, if_true, if_false, n10, eq_self, reduceCtorEq, Bool.false_eq_true, Nat.add_zero, Nat.reduceAdd]) (fun S1 hL1 hm1 => by simp (maxDischargeDepth := 40) only [f_X7_ask, f_X7_ask_26, hL1, gc_0, gc_1, gc_2, gc_3, gc_4, gc_5, Ly_put, kcf, kca, y_hasW _ hL1 hm1.2.1 w7, y_hasS _ hL1 hm1.2.1 hf, y_cell, y_iscall, i_in, c1, y_bad hL1, mCp_e, mC_e, mCv_e, mZ_0, mZ_1, mZ_ifb, if_true, if_false, n10, eq_self, reduceCtorEq, Bool.false_eq_true, Nat.add_zero, Nat.reduceAdd])
  | true =>
    obtain ⟨i, hi, rfl⟩ := dN_some c1 (by omega)
    have i7 : i < 7 := by omega
    by_cases h0 : bI (sKK k i) 6 = 0
    · refine Agr_r I (r := -1) (by simp (maxDischargeDepth := 40) only [f_X6_ask, hL, gc_0, gc_1, gc_2, gc_3, gc_4, gc_5, Ly_put, kcf, kca, x_hasW _ ho hL hr w7, x_hasS _ ho hL hr hf, x_cell, x_kind, x_iscall, x_isimage, i_in, c1, x_kdsKK hL I.2.1 I.2.2.1 i7, f_X6_partingKindsBest, h0, mCp_e, mC_e, mCv_e, mZ_0, mZ_1, mZ_ifb, if_true, if_false, n10, eq_self, reduceCtorEq, Bool.false_eq_true, Nat.add_zero, Nat.reduceAdd]) ?_
      have e : f_X7_parts (bI (sKK k i) 6) 0 8 = some (-1) := by
        unfold f_X7_parts
        rw [f_X7_parts_9_s f_X7_parts_57 999]
        simp (maxDischargeDepth := 40) only [h0, f_X7_parts_57, mCp_e, mC_e, mCv_e, mZ_0, mZ_1, mZ_ifb, if_true, if_false, n10, eq_self, reduceCtorEq, Bool.false_eq_true, Nat.add_zero, Nat.reduceAdd]
        rfl
      simp (maxDischargeDepth := 40) only [f_X7_ask, f_X7_ask_26, hL, gc_0, gc_1, gc_2, gc_3, gc_4, gc_5, Ly_put, kcf, kca, y_hasW _ hL hq w7, y_hasS _ hL hq hf, y_cell, y_iscall, i_in, c1, y_kdsKK hL I.2.1 hm i7, e, mCp_e, mC_e, mCv_e, mZ_0, mZ_1, mZ_ifb, if_true, if_false, n10, eq_self, reduceCtorEq, Bool.false_eq_true, Nat.add_zero, Nat.reduceAdd]
    · obtain ⟨S1, x1, x2, x3⟩ := x_pBKK hL h0
      exact Agr_k I I.2.1 (r := nI (flB (fun a => mAl (sKK k i) (fun kd => pS kd a) 6) 9)) ⟨S1, by simp (maxDischargeDepth := 40) only [f_X6_ask, hL, gc_0, gc_1, gc_2, gc_3, gc_4, gc_5, Ly_put, kcf, kca, x_hasW _ ho hL hr w7, x_hasS _ ho hL hr hf, x_cell, x_kind, x_iscall, x_isimage, i_in, c1, x_kdsKK hL I.2.1 I.2.2.1 i7, x1, mCp_e, mC_e, mCv_e, mZ_0, mZ_1, mZ_ifb, if_true, if_false, n10, eq_self, reduceCtorEq, Bool.false_eq_true, Nat.add_zero, Nat.reduceAdd], x2, CK_sa (x3.sa (by omega)) I.2.2.1, TC_fr x3 (by omega)⟩ (fun S2 hL1 hm1 => ⟨S2, by simp (maxDischargeDepth := 40) only [f_X7_ask, f_X7_ask_26, hL1, gc_0, gc_1, gc_2, gc_3, gc_4, gc_5, Ly_put, kcf, kca, y_hasW _ hL1 hm1.2.1 w7, y_hasS _ hL1 hm1.2.1 hf, y_cell, y_iscall, i_in, c1, y_kdsKK hL1 I.2.1 hm1 i7, y_pBKK h0, mCp_e, mC_e, mCv_e, mZ_0, mZ_1, mZ_ifb, if_true, if_false, n10, eq_self, reduceCtorEq, Bool.false_eq_true, Nat.add_zero, Nat.reduceAdd], hL1, hm1, TM_rf⟩)
