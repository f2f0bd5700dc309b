/-! drive, the class's side: cells 61 to 64 -/
def dr_K (S : mS) (ks : Nat) : Prop := ∀ q, q < 625 → S.2.1 64 q = nI (pGv ks (q % 25) (q / 25))
def dr_H (S : mS) (kw t W F : Nat) : Prop := S.2.1 61 4 = nI kw ∧ S.2.1 61 5 = nI t ∧ S.2.1 61 6 = nI W ∧ S.2.1 61 7 = nI F
theorem dr_Kw {S : mS} {ks w f : Nat} (h : dr_K S ks) (hw : w < 25) (hf : f < 25) : S.2.1 64 (25 * w + f) = nI (pGv ks f w) := by
  rw [h _ (by omega), show (25 * w + f) % 25 = f by omega, show (25 * w + f) / 25 = w by omega]
theorem x_learn {S : mS} {ks : Nat} (hL : Ly S) (hw : WY S) (hk : ks < 6) : ∃ S1, f_X0_learnWays (nI 61) (nI ks) S = some S1 ∧ Ly S1 ∧ Fr 61 65 S S1 ∧ S1.2.1 61 3 = nI ks ∧ dr_K S1 ks := by
  by_cases c : nI ks = S.2.1 61 3
  · have ce : (nI ks = S.2.1 61 3) = True := eq_true c
    refine ⟨S, by simp (maxDischargeDepth := 40) only [f_X0_learnWays, hL, gc_0, gc_1, gc_2, gc_3, gc_4, gc_5, Ly_put, kcf, kca, ce, mCp_e, mC_e, mCv_e, mZ_0, mZ_1, mZ_ifb, if_true, if_false, n10, eq_self, reduceCtorEq, Bool.false_eq_true, Nat.add_zero, Nat.reduceAdd], hL, Fr_rf, c.symm, ?_⟩
    rcases hw with h | ⟨k, k6, h1, h2⟩
    · rw [h] at c
      exact absurd c (fun e => by have := nI_nm1 (n := ks) (by omega); rw [e] at this; exact of_eq_true (this.symm ▸ (by simp)))
    · rw [h1] at c
      obtain rfl : ks = k := (nI_eq (by omega) (by omega)).mp c
      exact h2
  · have ce : (nI ks = S.2.1 61 3) = False := eq_false c
    obtain ⟨q, S1, ⟨p1, p2, p3⟩, e⟩ := lupI (fun n j (T : mS) => f_X0_learnWays_11 f_X0_learnWays_42 n (nI 61) (nI ks) (nI j) T) (fun j (T : mS) => Ly T ∧ Fr 64 65 S T ∧ ∀ q, q < j → T.2.1 64 q = nI (pGv ks (q % 25) (q / 25))) 625 (by
      rintro u j T hj ⟨q1, q2, q3⟩
      have le : ((625 : Int32) ≤ nI j) = False := eq_false (nI_ge hj (by decide))
      have r1 : mRem (nI j) 25 = nI (j % 25) := rm_g (b := 25) (by omega) (by decide)
      have r2 : nI j / 25 = nI (j / 25) := dv_g (b := 25) (by omega) (by decide)
      refine ⟨mPut T 64 j (nI (pGv ks (j % 25) (j / 25))), ⟨Ly_put q1 (cst_arr (Or.inl rfl)), Fr_tr q2 (Fr_put (by omega) (by omega)), fun w hw => ?_⟩, ?_⟩
      · rw [mPut_g]
        by_cases g : w = j
        · rw [if_pos ⟨rfl, g⟩, g]
        · rw [if_neg (by omega)]
          exact q3 w (by omega)
      · show f_X0_learnWays_11 f_X0_learnWays_42 (u + 1) _ _ _ T = _
        rw [f_X0_learnWays_11_s]
        simp (maxDischargeDepth := 40) only [le, q1, gc_0, gc_1, gc_2, gc_3, gc_4, gc_5, Ly_put, kcf, kca, r1, r2, x_gives _ hk _ (show j % 25 < 25 by omega) _ (show j / 25 < 25 by omega), hj, nI_1, mCp_e, mC_e, mCv_e, mZ_0, mZ_1, mZ_ifb, if_true, if_false, n10, eq_self, reduceCtorEq, Bool.false_eq_true, Nat.add_zero, Nat.reduceAdd]) 1000 S ⟨hL, Fr_rf, fun w hw => absurd hw (Nat.not_lt_zero w)⟩ (by decide)
    refine ⟨mPut S1 61 3 (nI ks), ?_, Ly_put p1 (by decide), Fr_tr (Fr_wd p2 (by decide) (by decide)) (Fr_put (by decide) (by decide)), by rw [mPut_g, if_pos ⟨rfl, rfl⟩], fun q hq => by rw [mPut_r _ _ _ _ _ (by decide)]; exact p3 q hq⟩
    have le : ((625 : Int32) ≤ nI 625) = True := eq_true (ng_i (a := 625))
    have e' : f_X0_learnWays_11 f_X0_learnWays_42 1000 (nI 61) (nI ks) 0 S = some (mPut S1 61 3 (nI ks)) := by
      refine Eq.trans e ?_
      show f_X0_learnWays_11 f_X0_learnWays_42 (q + 1) _ _ _ S1 = _
      rw [f_X0_learnWays_11_s]
      simp (maxDischargeDepth := 40) only [le, if_true, f_X0_learnWays_42, p1, gc_0, gc_1, gc_2, gc_3, gc_4, gc_5, Ly_put, kcf, kca]
    simp (maxDischargeDepth := 40) only [f_X0_learnWays, hL, gc_0, gc_1, gc_2, gc_3, gc_4, gc_5, Ly_put, kcf, kca, ce, if_false, e']
theorem x_cells {S : mS} {kw t W F g : Nat} (hL : Ly S) (hH : dr_H S kw t W F) (hk : kw < 6) (ht : t + g ≤ 20000) : f_X0_cellsIn (nI 61) (nI g) S = some (nI (pR kw (t + g))) := by
  simp (maxDischargeDepth := 40) only [f_X0_cellsIn, hL, gc_0, gc_1, gc_2, gc_3, gc_4, gc_5, Ly_put, kcf, kca, hH.1, hH.2.1, nI_add, (x_reach hk ht).1, mCp_e, mC_e, mCv_e, mZ_0, mZ_1, mZ_ifb, if_true, if_false, n10, eq_self, reduceCtorEq, Bool.false_eq_true, Nat.add_zero, Nat.reduceAdd]
theorem x_isR {S : mS} {g c : Nat} (hL : Ly S) (hg : g ≤ 10) (hc : c < 25) : f_X0_isReached (nI 61) (nI g) (nI c) S = some (if anyB (fun w => tb (S.2.1 62 (25 * g + w)) c) 25 = true then 1 else 0) := by
  unfold f_X0_isReached
  refine lupX (fun n j (_ : Unit) => f_X0_isReached_2 (f_X0_isReached_34 S) S n (nI 61) (nI g) (nI c) (nI j)) (fun j _ => anyB (fun w => tb (S.2.1 62 (25 * g + w)) c) j = false) (fun β => β = some (if anyB (fun w => tb (S.2.1 62 (25 * g + w)) c) 25 = true then 1 else 0)) 25 ?_ ?_ 1000 () rfl (by decide)
  · intro n j _ hj q
    have le : ((25 : Int32) ≤ nI j) = False := eq_false (nI_ge hj (by decide))
    have b : 25 * g + j < 275 := by omega
    have hb := (x_hasB (v := S.2.1 62 (25 * g + j)) (j := c) (by omega)).1
    cases h : tb (S.2.1 62 (25 * g + j)) c with
    | true =>
      left
      rw [h] at hb
      have h5 : anyB (fun w => tb (S.2.1 62 (25 * g + w)) c) 25 = true := (anyB_iff _ _).mpr ⟨j, hj, h⟩
      show f_X0_isReached_2 (f_X0_isReached_34 S) S (n + 1) _ _ _ _ = _
      rw [f_X0_isReached_2_s, h5]
      simp (maxDischargeDepth := 40) only [le, hL, gc_0, gc_1, gc_2, gc_3, gc_4, gc_5, Ly_put, kcf, kca, m25, nI_add, b, hb, mCp_e, mC_e, mCv_e, mZ_0, mZ_1, mZ_ifb, if_true, if_false, n10, eq_self, reduceCtorEq, Bool.false_eq_true, Nat.add_zero, Nat.reduceAdd]
    | false =>
      right
      rw [h] at hb
      refine ⟨(), ?_, ?_⟩
      · show (anyB _ j || _) = false
        rw [q, Bool.false_or]
        exact h
      · show f_X0_isReached_2 (f_X0_isReached_34 S) S (n + 1) _ _ _ _ = _
        rw [f_X0_isReached_2_s]
        simp (maxDischargeDepth := 40) only [le, hL, gc_0, gc_1, gc_2, gc_3, gc_4, gc_5, Ly_put, kcf, kca, m25, nI_add, b, hb, nI_1, mCp_e, mC_e, mCv_e, mZ_0, mZ_1, mZ_ifb, if_true, if_false, n10, eq_self, reduceCtorEq, Bool.false_eq_true, Nat.add_zero, Nat.reduceAdd]
  · intro n _ q
    have le : ((25 : Int32) ≤ nI 25) = True := eq_true (ng_i (a := 25))
    show f_X0_isReached_2 (f_X0_isReached_34 S) S (n + 1) _ _ _ _ = _
    rw [f_X0_isReached_2_s, q]
    simp (maxDischargeDepth := 40) only [le, f_X0_isReached_34, mCp_e, mC_e, mCv_e, mZ_0, mZ_1, mZ_ifb, if_true, if_false, n10, eq_self, reduceCtorEq, Bool.false_eq_true, Nat.add_zero, Nat.reduceAdd]
theorem x_fill {S : mS} {a : Nat} (hL : Ly S) (hk : mKd a = 8) (hl : mLn a < 999) : ∃ S1, f_J7_fill_53178 (nI a) 0 S = some S1 ∧ Ly S1 ∧ Fr a (a + 1) S S1 ∧ ∀ j, j < mLn a → S1.2.1 a j = 0 := by
  obtain ⟨q, S1, ⟨p1, p2, p3⟩, e⟩ := lupI (fun n j (T : mS) => f_J7_fill_53178_5 f_J7_fill_53178_20 n (nI a) 0 (nI j) (nI (mLn a)) T) (fun j (T : mS) => Ly T ∧ Fr a (a + 1) S T ∧ ∀ q, q < j → T.2.1 a q = 0) (mLn a) (by
    rintro u j T hj ⟨q1, q2, q3⟩
    have le : (nI (mLn a) ≤ nI j) = False := eq_false (nI_ge hj (by omega))
    refine ⟨mPut T a j 0, ⟨Ly_put q1 (cst_arr (Or.inl hk)), Fr_tr q2 (Fr_put (by omega) (by omega)), fun w hw => ?_⟩, ?_⟩
    · rw [mPut_g]
      by_cases g : w = j
      · rw [if_pos ⟨rfl, g⟩]
      · rw [if_neg (by omega)]
        exact q3 w (by omega)
    · show f_J7_fill_53178_5 f_J7_fill_53178_20 (u + 1) _ _ _ _ T = _
      rw [f_J7_fill_53178_5_s]
      simp (maxDischargeDepth := 40) only [le, if_false, mXs_e (S := T) q1.1 hk hj, nI_1]) 1000 S ⟨hL, Fr_rf, fun w hw => absurd hw (Nat.not_lt_zero w)⟩ (by omega)
  refine ⟨S1, ?_, p1, p2, p3⟩
  rw [f_J7_fill_53178, mLe_e hL.1 hk (by decide)]
  refine Eq.trans e ?_
  have le : (nI (mLn a) ≤ nI (mLn a)) = True := eq_true (ng_i (a := mLn a))
  show f_J7_fill_53178_5 f_J7_fill_53178_20 (q + 1) _ _ _ _ S1 = _
  rw [f_J7_fill_53178_5_s]
  simp (maxDischargeDepth := 40) only [le, if_true, f_J7_fill_53178_20]
theorem x_allG {S : mS} {ks w : Nat} {X : Int32} (hL : Ly S) (hK : dr_K S ks) (hk : ks < 6) (hw : w < 25) : ∃ Y, f_X0_allGivenWay (nI 61) X (nI w) S = some Y ∧ ∀ b, b < 25 → tb Y b = anyB (fun f => tb X f && decide (b = pGv ks f w)) 25 := by
  unfold f_X0_allGivenWay
  by_cases c : X = 0
  · have ce : (X = 0) = True := eq_true c
    refine ⟨0, ?_, fun b hb => ?_⟩
    · show f_X0_allGivenWay_5 (f_X0_allGivenWay_48 S) S (999 + 1) _ _ _ _ _ = _
      rw [f_X0_allGivenWay_5_s]
      simp (maxDischargeDepth := 40) only [ce, if_true, f_X0_allGivenWay_48]
    · rw [tb_0, c]
      cases h : anyB (fun f => tb 0 f && decide (b = pGv ks f w)) 25 with
      | false => rfl
      | true =>
        obtain ⟨f, _, e⟩ := (anyB_iff _ _).mp h
        rw [tb_0, Bool.false_and] at e
        exact e
  · have ce : (X = 0) = False := eq_false c
    obtain ⟨q, Y, p1, e⟩ := lupI (fun n j (Y : Int32) => f_X0_allGivenWay_5 (f_X0_allGivenWay_48 S) S n (nI 61) X (nI w) Y (nI j)) (fun j (Y : Int32) => ∀ b, b < 25 → tb Y b = anyB (fun f => tb X f && decide (b = pGv ks f w)) j) 25 (by
      intro u j Y hj q1
      have le : ((25 : Int32) ≤ nI j) = False := eq_false (nI_ge hj (by decide))
      have hb := (x_hasB (v := X) (j := j) (by omega)).1
      have b : 25 * w + j < 625 := by omega
      have g25 := p_gives _ hk _ hj _ hw
      cases h : tb X j with
      | true =>
        rw [h] at hb
        refine ⟨Y ||| (1 <<< (nI (pGv ks j w) &&& 31)), fun b hb => ?_, ?_⟩
        · show _ = (anyB _ j || (tb X j && decide (b = pGv ks j w)))
          rw [tb_or, q1 b hb, tb_one _ (by omega) b (by omega), h, Bool.true_and]
        · show f_X0_allGivenWay_5 (f_X0_allGivenWay_48 S) S (u + 1) _ _ _ _ _ = _
          rw [f_X0_allGivenWay_5_s]
          simp (maxDischargeDepth := 40) only [ce, le, hb, hL, gc_0, gc_1, gc_2, gc_3, gc_4, gc_5, Ly_put, kcf, kca, m25, nI_add, b, dr_Kw hK hw hj, f_X0_allGivenWay_42, nI_1, mCp_e, mC_e, mCv_e, mZ_0, mZ_1, mZ_ifb, if_true, if_false, n10, eq_self, reduceCtorEq, Bool.false_eq_true, Nat.add_zero, Nat.reduceAdd]
      | false =>
        rw [h] at hb
        refine ⟨Y, fun b hb => ?_, ?_⟩
        · show _ = (anyB _ j || (tb X j && decide (b = pGv ks j w)))
          rw [q1 b hb, h, Bool.false_and, Bool.or_false]
        · show f_X0_allGivenWay_5 (f_X0_allGivenWay_48 S) S (u + 1) _ _ _ _ _ = _
          rw [f_X0_allGivenWay_5_s]
          simp (maxDischargeDepth := 40) only [ce, le, hb, hL, gc_0, gc_1, gc_2, gc_3, gc_4, gc_5, Ly_put, kcf, kca, f_X0_allGivenWay_42, nI_1, mCp_e, mC_e, mCv_e, mZ_0, mZ_1, mZ_ifb, if_true, if_false, n10, eq_self, reduceCtorEq, Bool.false_eq_true, Nat.add_zero, Nat.reduceAdd]) 1000 0 (fun b _ => tb_0 b) (by decide)
    refine ⟨Y, ?_, p1⟩
    refine Eq.trans e ?_
    have le : ((25 : Int32) ≤ nI 25) = True := eq_true (ng_i (a := 25))
    show f_X0_allGivenWay_5 (f_X0_allGivenWay_48 S) S (q + 1) _ _ _ _ _ = _
    rw [f_X0_allGivenWay_5_s]
    simp (maxDischargeDepth := 40) only [ce, le, if_true, if_false, f_X0_allGivenWay_48]
theorem x_allT {S : mS} {ks w : Nat} {X : Int32} (hL : Ly S) (hK : dr_K S ks) (hk : ks < 6) (hw : w < 25) : ∃ Y, f_X0_allThatComeTo (nI 61) X (nI w) S = some Y ∧ ∀ b, b < 25 → tb Y b = tb X (pGv ks b w) := by
  unfold f_X0_allThatComeTo
  by_cases c : X = 0
  · have ce : (X = 0) = True := eq_true c
    refine ⟨0, ?_, fun b hb => by rw [tb_0, c, tb_0]⟩
    show f_X0_allThatComeTo_5 (f_X0_allThatComeTo_48 S) S (999 + 1) _ _ _ _ _ = _
    rw [f_X0_allThatComeTo_5_s]
    simp (maxDischargeDepth := 40) only [ce, if_true, f_X0_allThatComeTo_48]
  · have ce : (X = 0) = False := eq_false c
    obtain ⟨q, Y, p1, e⟩ := lupI (fun n j (Y : Int32) => f_X0_allThatComeTo_5 (f_X0_allThatComeTo_48 S) S n (nI 61) X (nI w) Y (nI j)) (fun j (Y : Int32) => ∀ b, b < 25 → tb Y b = (decide (b < j) && tb X (pGv ks b w))) 25 (by
      intro u j Y hj q1
      have le : ((25 : Int32) ≤ nI j) = False := eq_false (nI_ge hj (by decide))
      have b : 25 * w + j < 625 := by omega
      have g25 := p_gives _ hk _ hj _ hw
      have hb := (x_hasB (v := X) (j := pGv ks j w) (by omega)).1
      cases h : tb X (pGv ks j w) with
      | true =>
        rw [h] at hb
        refine ⟨Y ||| (1 <<< (nI j &&& 31)), fun b hb => ?_, ?_⟩
        · rw [tb_or, q1 b hb, tb_one _ (by omega) b (by omega)]
          by_cases g : b = j
          · rw [g, h, decide_eq_true (rfl : j = j), decide_eq_true (show j < j + 1 by omega), Bool.or_true, Bool.and_self]
          · rw [decide_eq_false g, Bool.or_false, show decide (b < j) = decide (b < j + 1) from decide_eq_decide.mpr (by omega)]
        · show f_X0_allThatComeTo_5 (f_X0_allThatComeTo_48 S) S (u + 1) _ _ _ _ _ = _
          rw [f_X0_allThatComeTo_5_s]
          simp (maxDischargeDepth := 40) only [ce, le, hL, gc_0, gc_1, gc_2, gc_3, gc_4, gc_5, Ly_put, kcf, kca, m25, nI_add, b, dr_Kw hK hw hj, hb, f_X0_allThatComeTo_42, nI_1, mCp_e, mC_e, mCv_e, mZ_0, mZ_1, mZ_ifb, if_true, if_false, n10, eq_self, reduceCtorEq, Bool.false_eq_true, Nat.add_zero, Nat.reduceAdd]
      | false =>
        rw [h] at hb
        refine ⟨Y, fun b hb => ?_, ?_⟩
        · rw [q1 b hb]
          by_cases g : b = j
          · rw [g, h, Bool.and_false, Bool.and_false]
          · rw [show decide (b < j) = decide (b < j + 1) from decide_eq_decide.mpr (by omega)]
        · show f_X0_allThatComeTo_5 (f_X0_allThatComeTo_48 S) S (u + 1) _ _ _ _ _ = _
          rw [f_X0_allThatComeTo_5_s]
          simp (maxDischargeDepth := 40) only [ce, le, hL, gc_0, gc_1, gc_2, gc_3, gc_4, gc_5, Ly_put, kcf, kca, m25, nI_add, b, dr_Kw hK hw hj, hb, f_X0_allThatComeTo_42, nI_1, mCp_e, mC_e, mCv_e, mZ_0, mZ_1, mZ_ifb, if_true, if_false, n10, eq_self, reduceCtorEq, Bool.false_eq_true, Nat.add_zero, Nat.reduceAdd]) 1000 0 (fun b _ => by rw [tb_0]; rfl) (by decide)
    refine ⟨Y, ?_, fun b hb => by rw [p1 b hb, decide_eq_true hb, Bool.true_and]⟩
    refine Eq.trans e ?_
    have le : ((25 : Int32) ≤ nI 25) = True := eq_true (ng_i (a := 25))
    show f_X0_allThatComeTo_5 (f_X0_allThatComeTo_48 S) S (q + 1) _ _ _ _ _ = _
    rw [f_X0_allThatComeTo_5_s]
    simp (maxDischargeDepth := 40) only [ce, le, if_true, if_false, f_X0_allThatComeTo_48]
theorem x_joinA {S : mS} {kw t g w : Nat} (hL : Ly S) (hw : w < 25) : ∃ Y, f_X0_joinedAround (nI 61) (nI w) (nI (pR kw (t + g))) S = some Y ∧ ∀ b, b < 25 → tb Y b = anyB (fun d => tb (S.2.1 63 (dr_W kw t g w d)) b) 5 := by
  unfold f_X0_joinedAround
  obtain ⟨q, Y, p1, e⟩ := lupI (fun n j (Y : Int32) => f_X0_joinedAround_5 (f_X0_joinedAround_32 S) S n (nI 61) (nI w) (nI (pR kw (t + g))) Y (nI j)) (fun j (Y : Int32) => ∀ b, b < 25 → tb Y b = anyB (fun d => tb (S.2.1 63 (dr_W kw t g w d)) b) j) 5 (by
    intro u j Y hj q1
    have le : ((5 : Int32) ≤ nI j) = False := eq_false (nI_ge hj (by decide))
    have e1 : f_X6_moved (nI w) (nI j) (nI (pR kw (t + g))) = some (nI (dr_W kw t g w j)) := x_moved _ hw _ hj _ (pR_lt _ _)
    have ww := dr_W_lt (kw := kw) (t := t) (m := g) hw hj
    refine ⟨Y ||| S.2.1 63 (dr_W kw t g w j), fun b hb => ?_, ?_⟩
    · show _ = (anyB _ j || _)
      rw [tb_or, q1 b hb]
    · show f_X0_joinedAround_5 (f_X0_joinedAround_32 S) S (u + 1) _ _ _ _ _ = _
      rw [f_X0_joinedAround_5_s]
      simp (maxDischargeDepth := 40) only [le, e1, hL, gc_0, gc_1, gc_2, gc_3, gc_4, gc_5, Ly_put, kcf, kca, ww, nI_1, mCp_e, mC_e, mCv_e, mZ_0, mZ_1, mZ_ifb, if_true, if_false, n10, eq_self, reduceCtorEq, Bool.false_eq_true, Nat.add_zero, Nat.reduceAdd]) 1000 0 (fun b _ => tb_0 b) (by decide)
  refine ⟨Y, ?_, p1⟩
  refine Eq.trans e ?_
  have le : ((5 : Int32) ≤ nI 5) = True := eq_true (ng_i (a := 5))
  show f_X0_joinedAround_5 (f_X0_joinedAround_32 S) S (q + 1) _ _ _ _ _ = _
  rw [f_X0_joinedAround_5_s]
  simp (maxDischargeDepth := 40) only [le, if_true, f_X0_joinedAround_32]
