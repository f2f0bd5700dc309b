/-! the fraction -/
theorem x_kF {S : mS} {T : Nat} (hL : Ly S) (hT : T ≤ 100) : f_X6_keepFraction (nI 0) (nI T) S = some (mPut (mPut S 0 12 (nI (T / Nat.gcd T 100))) 0 13 (nI (100 / Nat.gcd T 100))) := by
  have gp : 0 < Nat.gcd T 100 := Nat.gcd_pos_of_pos_right _ (by decide)
  have gl : Nat.gcd T 100 ≤ 100 := Nat.gcd_le_right _ (by decide)
  have gT : T % Nat.gcd T 100 = 0 := Nat.mod_eq_zero_of_dvd (Nat.gcd_dvd_left _ _)
  have g1 : 100 % Nat.gcd T 100 = 0 := Nat.mod_eq_zero_of_dvd (Nat.gcd_dvd_right _ _)
  have mx_ : ∀ b, Nat.gcd T 100 < b → ¬ (T % b = 0 ∧ 100 % b = 0) := fun b hb z => by
    have := Nat.le_of_dvd gp (Nat.dvd_gcd (Nat.dvd_of_mod_eq_zero z.1) (Nat.dvd_of_mod_eq_zero z.2))
    omega
  generalize Nat.gcd T 100 = g at gp gl gT g1 mx_
  obtain ⟨m, e⟩ := lup (fun n j => f_X6_keepFraction_3 f_X6_keepFraction_27 n (nI 0) (nI T) (nI (100 - j)) S) (100 - g) (fun n j hj => by
    have b1 : (nI (100 - j) ≤ 1) = False := eq_false (nI_ge (a := 1) (b := 100 - j) (by omega) (by omega))
    have b0 : ¬ nI (100 - j) = 0 := nI_ne0 (by omega) (by omega)
    have r1 : mRem (nI T) (nI (100 - j)) = nI (T % (100 - j)) := rm_g (by omega) (by omega)
    have r2 : mRem 100 (nI (100 - j)) = nI (100 % (100 - j)) := rm_g (a := 100) (by omega) (by omega)
    have z1 : (nI (T % (100 - j)) = 0) = (T % (100 - j) = 0) := eq_i (b := 0) (by have := Nat.mod_le T (100 - j); omega) (by decide)
    have z2 : (nI (100 % (100 - j)) = 0) = (100 % (100 - j) = 0) := eq_i (b := 0) (by have := Nat.mod_le 100 (100 - j); omega) (by decide)
    have sb : nI (100 - j) + (-1) = nI (100 - (j + 1)) := by
      rw [show nI (100 - j) + (-1) = nI (100 - j) - nI 1 from (Int32.sub_eq_add_neg _ _).symm, nI_sub (by omega)]
      congr 1
    have no := mx_ (100 - j) (by omega)
    show f_X6_keepFraction_3 f_X6_keepFraction_27 (n + 1) _ _ _ S = _
    rw [f_X6_keepFraction_3_s, if_neg (fun h => by rw [b1] at h; exact h), mNz_e b0, mNz_e b0, r1, r2]
    simp (maxDischargeDepth := 40) only [z1, z2, f_X6_keepFraction_21, sb]
    by_cases c1 : T % (100 - j) = 0
    · rw [if_pos c1, if_neg (fun c2 => no ⟨c1, c2⟩)]
    · rw [if_neg c1]) 1000 (by omega)
  have b0 : ¬ nI g = 0 := nI_ne0 gp (by omega)
  have d1 : nI T / nI g = nI (T / g) := dv_g (by omega) (by omega)
  have d2 : 100 / nI g = nI (100 / g) := dv_g (a := 100) (by omega) (by omega)
  have k27 : f_X6_keepFraction_27 (nI 0) (nI T) (nI g) S = some (mPut (mPut S 0 12 (nI (T / g))) 0 13 (nI (100 / g))) := by
    unfold f_X6_keepFraction_27
    rw [mNz_e b0, d1, d2]
    simp (maxDischargeDepth := 40) only [hL, gc_0, gc_1, gc_2, gc_3, gc_4, gc_5, Ly_put, kcf, kca, mCp_e, mC_e, mCv_e, mZ_0, mZ_1, mZ_ifb, if_true, if_false, n10, eq_self, reduceCtorEq, Bool.false_eq_true, Nat.add_zero, Nat.reduceAdd]
    rw [mNz_e b0]
  unfold f_X6_keepFraction
  refine Eq.trans e ?_
  rw [show 100 - (100 - g) = g by omega, f_X6_keepFraction_3_s]
  have r1 : mRem (nI T) (nI g) = nI 0 := by rw [rm_g (by omega) (by omega), gT]
  have r2 : mRem 100 (nI g) = nI 0 := (show mRem 100 (nI g) = nI (100 % g) from rm_g (a := 100) (by decide) (by omega)).trans (by rw [g1])
  by_cases c : nI g ≤ 1
  · rw [if_pos c, k27]
  · rw [if_neg c, mNz_e b0, mNz_e b0, r1, r2, if_pos (show nI 0 = (0 : Int32) from rfl), if_pos (show nI 0 = (0 : Int32) from rfl), k27]
theorem lNz {b : Nat} (hb : b < 2147483648) : (lN b = 0) = (b = 0) := by
  rw [show (0 : Int64) = lN 0 from rfl]
  exact propext (lN_eq hb (by decide))
theorem lg_z {b : Nat} (hb : b < 2147483648) : (lg_cmp (lN b) 0 = 0) = (b = 0) := by
  rw [← lNz hb]
  unfold lg_cmp
  apply propext
  by_cases c : lN b = 0
  · rw [c]
    exact ⟨fun _ => rfl, fun _ => rfl⟩
  · by_cases h : lN b > 0
    · rw [if_pos h]
      exact ⟨fun z => absurd z (by decide), fun z => absurd z c⟩
    · rw [if_neg h, if_neg c]
      exact ⟨fun z => absurd z (by decide), fun z => absurd z c⟩
theorem y_eu (v1 v3 : Int64) (S : mS) : ∀ b a n, b < n → b < 2147483648 → a < 2147483648 → f_X7_lay_6 f_X7_lay_31 n (nI 83) v1 v3 (lN a) (lN b) S = f_X7_lay_31 (nI 83) v1 v3 (lN (Nat.gcd a b)) S := by
  intro b
  induction b using Nat.strongRecOn with
  | ind b ih =>
    intro a n hn hb ha
    obtain ⟨m, rfl⟩ : ∃ m, n = m + 1 := ⟨n - 1, by omega⟩
    rw [f_X7_lay_6_s]
    by_cases c : b = 0
    · rw [if_pos (by rw [lg_z hb]; exact c), c, Nat.gcd_zero_right]
    · have r : mRemL (lN a) (lN b) = lN (a % b) := lN_rm (by omega) (by omega)
      have lt := Nat.mod_lt a (show 0 < b by omega)
      rw [if_neg (by rw [lg_z hb]; exact c), mNzL_e (by rw [lNz hb]; exact c), r, ih (a % b) lt b m (by omega) (by omega) hb]
      congr 2
      rw [Nat.gcd_comm a b, Nat.gcd_rec b a, Nat.gcd_comm]
theorem y_lay {S : mS} {T : Nat} (hL : Ly S) (hT : T ≤ 100) : f_X7_lay (nI 83) (lN T) 100 S = some (mPutL (mPutL S 83 25 (lN (T / Nat.gcd T 100))) 83 26 (lN (100 / Nat.gcd T 100))) := by
  have gp : 0 < Nat.gcd T 100 := Nat.gcd_pos_of_pos_right _ (by decide)
  have gl : Nat.gcd T 100 ≤ 100 := Nat.gcd_le_right _ (by decide)
  have e := y_eu (lN T) (lN 100) S 100 T 1000 (by decide) (by decide) (by omega)
  unfold f_X7_lay
  refine Eq.trans e ?_
  generalize Nat.gcd T 100 = g at gp gl
  have b0 : ¬ lN g = 0 := by rw [lNz (by omega)]; omega
  have d1 : lN T / lN g = lN (T / g) := lN_dv (by omega) (by omega)
  have d2 : lN 100 / lN g = lN (100 / g) := lN_dv (by omega) (by omega)
  have hL2 : Ly (mPutL S 83 25 (lN (T / g))) := Ly_putL hL
  unfold f_X7_lay_31
  rw [mNzL_e b0, d1, d2]
  simp (maxDischargeDepth := 40) only [hL, gc_0, gc_1, gc_2, gc_3, gc_4, gc_5, Ly_put, kcf, kca, hL2, mCp_e, mC_e, mCv_e, mZ_0, mZ_1, mZ_ifb, if_true, if_false, n10, eq_self, reduceCtorEq, Bool.false_eq_true, Nat.add_zero, Nat.reduceAdd]
  rw [mNzL_e b0]
theorem o_misheard {S : mS} (H : Inv S) (v1 v2 v3 v4 v5 : Int32) : Agr (f_X6_misheard (nI 0) v1 v2 v3 v4 v5) (f_X7_misheard (nI 83) v1 v2 v3 v4 v5) S := by
  obtain ⟨k, I⟩ := Inv_k H
  have hL := I.1
  have hv : VH k.h := I.2.1.1
  have hr : RH S 2 k.h := I.2.2.1.2.1
  have hm : MK S k := I.2.2.2.1
  have hq : RM S k.h := hm.2.1
  have ho : HO 2 := Or.inl rfl
  have hw := hv.1
  have hf := hv.2.1
  have w7 : k.h.w ≤ 7 := by omega
  cases c1 : dN k.h.f v1 with
  | false =>
    exact Agr_ref (v := -2) 0 (by decide) I (by simp (maxDischargeDepth := 40) only [f_X6_misheard, f_X6_misheard_54, hL, gc_0, gc_1, gc_2, gc_3, gc_4, gc_5, Ly_put, kcf, kca, x_hasW _ ho hL hr w7, x_hasS _ ho hL hr hf, x_cell, x_kind, x_iscall, x_isimage, i_in, c1, x_bad hL, mCp_e, mC_e, mCv_e, mZ_0, mZ_1, mZ_ifb, if_true, if_false, n10, eq_self, reduceCtorEq, Bool.false_eq_true, Nat.add_zero, Nat.reduceAdd]) (fun S1 hL1 hm1 => by simp (maxDischargeDepth := 40) only [f_X7_misheard, f_X7_misheard_42, hL1, gc_0, gc_1, gc_2, gc_3, gc_4, gc_5, Ly_put, kcf, kca, y_hasW _ hL1 hm1.2.1 w7, y_hasS _ hL1 hm1.2.1 hf, y_cell, y_iscall, i_in, c1, y_bad hL1, mCp_e, mC_e, mCv_e, mZ_0, mZ_1, mZ_ifb, if_true, if_false, n10, eq_self, reduceCtorEq, Bool.false_eq_true, Nat.add_zero, Nat.reduceAdd])
  | true =>
    cases c2 : dN k.h.w v2 with
    | false =>
      exact Agr_ref (v := -2) 0 (by decide) I (by simp (maxDischargeDepth := 40) only [f_X6_misheard, f_X6_misheard_54, hL, gc_0, gc_1, gc_2, gc_3, gc_4, gc_5, Ly_put, kcf, kca, x_hasW _ ho hL hr w7, x_hasS _ ho hL hr hf, x_cell, x_kind, x_iscall, x_isimage, i_in, c1, c2, x_bad hL, mCp_e, mC_e, mCv_e, mZ_0, mZ_1, mZ_ifb, if_true, if_false, n10, eq_self, reduceCtorEq, Bool.false_eq_true, Nat.add_zero, Nat.reduceAdd]) (fun S1 hL1 hm1 => by simp (maxDischargeDepth := 40) only [f_X7_misheard, f_X7_misheard_42, hL1, gc_0, gc_1, gc_2, gc_3, gc_4, gc_5, Ly_put, kcf, kca, y_hasW _ hL1 hm1.2.1 w7, y_hasS _ hL1 hm1.2.1 hf, y_cell, y_iscall, i_in, c1, c2, y_bad hL1, mCp_e, mC_e, mCv_e, mZ_0, mZ_1, mZ_ifb, if_true, if_false, n10, eq_self, reduceCtorEq, Bool.false_eq_true, Nat.add_zero, Nat.reduceAdd])
    | true =>
      cases c3 : dN 5 v3 with
      | false =>
        exact Agr_ref (v := -2) 0 (by decide) I (by simp (maxDischargeDepth := 40) only [f_X6_misheard, f_X6_misheard_54, hL, gc_0, gc_1, gc_2, gc_3, gc_4, gc_5, Ly_put, kcf, kca, x_hasW _ ho hL hr w7, x_hasS _ ho hL hr hf, x_cell, x_kind, x_iscall, x_isimage, i_in, c1, c2, c3, x_bad hL, mCp_e, mC_e, mCv_e, mZ_0, mZ_1, mZ_ifb, if_true, if_false, n10, eq_self, reduceCtorEq, Bool.false_eq_true, Nat.add_zero, Nat.reduceAdd]) (fun S1 hL1 hm1 => by simp (maxDischargeDepth := 40) only [f_X7_misheard, f_X7_misheard_42, hL1, gc_0, gc_1, gc_2, gc_3, gc_4, gc_5, Ly_put, kcf, kca, y_hasW _ hL1 hm1.2.1 w7, y_hasS _ hL1 hm1.2.1 hf, y_cell, y_iscall, i_in, c1, c2, c3, y_bad hL1, mCp_e, mC_e, mCv_e, mZ_0, mZ_1, mZ_ifb, if_true, if_false, n10, eq_self, reduceCtorEq, Bool.false_eq_true, Nat.add_zero, Nat.reduceAdd])
      | true =>
        cases c4 : dN 5 v4 with
        | false =>
          exact Agr_ref (v := -2) 0 (by decide) I (by simp (maxDischargeDepth := 40) only [f_X6_misheard, f_X6_misheard_54, hL, gc_0, gc_1, gc_2, gc_3, gc_4, gc_5, Ly_put, kcf, kca, x_hasW _ ho hL hr w7, x_hasS _ ho hL hr hf, x_cell, x_kind, x_iscall, x_isimage, i_in, c1, c2, c3, c4, x_bad hL, mCp_e, mC_e, mCv_e, mZ_0, mZ_1, mZ_ifb, if_true, if_false, n10, eq_self, reduceCtorEq, Bool.false_eq_true, Nat.add_zero, Nat.reduceAdd]) (fun S1 hL1 hm1 => by simp (maxDischargeDepth := 40) only [f_X7_misheard, f_X7_misheard_42, hL1, gc_0, gc_1, gc_2, gc_3, gc_4, gc_5, Ly_put, kcf, kca, y_hasW _ hL1 hm1.2.1 w7, y_hasS _ hL1 hm1.2.1 hf, y_cell, y_iscall, i_in, c1, c2, c3, c4, y_bad hL1, mCp_e, mC_e, mCv_e, mZ_0, mZ_1, mZ_ifb, if_true, if_false, n10, eq_self, reduceCtorEq, Bool.false_eq_true, Nat.add_zero, Nat.reduceAdd])
        | true =>
          cases c5 : dN 11 v5 with
          | false =>
            exact Agr_ref (v := -2) 0 (by decide) I (by simp (maxDischargeDepth := 40) only [f_X6_misheard, f_X6_misheard_54, hL, gc_0, gc_1, gc_2, gc_3, gc_4, gc_5, Ly_put, kcf, kca, x_hasW _ ho hL hr w7, x_hasS _ ho hL hr hf, x_cell, x_kind, x_iscall, x_isimage, i_in, c1, c2, c3, c4, c5, x_bad hL, mCp_e, mC_e, mCv_e, mZ_0, mZ_1, mZ_ifb, if_true, if_false, n10, eq_self, reduceCtorEq, Bool.false_eq_true, Nat.add_zero, Nat.reduceAdd]) (fun S1 hL1 hm1 => by simp (maxDischargeDepth := 40) only [f_X7_misheard, f_X7_misheard_42, hL1, gc_0, gc_1, gc_2, gc_3, gc_4, gc_5, Ly_put, kcf, kca, y_hasW _ hL1 hm1.2.1 w7, y_hasS _ hL1 hm1.2.1 hf, y_cell, y_iscall, i_in, c1, c2, c3, c4, c5, y_bad hL1, mCp_e, mC_e, mCv_e, mZ_0, mZ_1, mZ_ifb, if_true, if_false, n10, eq_self, reduceCtorEq, Bool.false_eq_true, Nat.add_zero, Nat.reduceAdd])
          | true =>
            obtain ⟨s, hs, rfl⟩ := dN_some c1 (by omega)
            obtain ⟨i, hi, rfl⟩ := dN_some c2 (by omega)
            obtain ⟨d, hd, rfl⟩ := dN_some c3 (by decide)
            obtain ⟨e, he, rfl⟩ := dN_some c4 (by decide)
            obtain ⟨c, hc, rfl⟩ := dN_some c5 (by decide)
            have hc' : c ≤ 10 := by omega
            obtain ⟨S1, x1, x2, x3⟩ := x_ml hL I.2.1 I.2.2.1 hs hi hd he hc'
            have te : sm (fun h => gM k s i d e c (h % 2) (h / 2)) 4 = sm (fun h => gM k s i d e c (h / 2) (h % 2)) 4 := by
              show 0 + gM k s i d e c 0 0 + gM k s i d e c 1 0 + gM k s i d e c 0 1 + gM k s i d e c 1 1 = 0 + gM k s i d e c 0 0 + gM k s i d e c 0 1 + gM k s i d e c 1 0 + gM k s i d e c 1 1
              omega
            have tl : sm (fun h => gM k s i d e c (h / 2) (h % 2)) 4 ≤ 100 := by
              show 0 + gM k s i d e c 0 0 + gM k s i d e c 0 1 + gM k s i d e c 1 0 + gM k s i d e c 1 1 ≤ 100
              have w : ∀ u w, gM k s i d e c u w ≤ wgt c u * wgt c w := fun u w => by
                unfold gM
                split
                · exact Nat.le_refl _
                · exact Nat.zero_le _
              have a0 := w 0 0
              have a1 := w 0 1
              have a2 := w 1 0
              have a3 := w 1 1
              have b : ∀ c, c < 11 → wgt c 0 * wgt c 0 + wgt c 0 * wgt c 1 + wgt c 1 * wgt c 0 + wgt c 1 * wgt c 1 = 100 := by decide
              have := b c hc
              omega
            generalize hT : sm (fun h => gM k s i d e c (h / 2) (h % 2)) 4 = T at x1 te tl
            have kf := x_kF x2 tl
            have cx : f_X6_misheard (nI 0) (nI s) (nI i) (nI d) (nI e) (nI c) S = some (1, mPut (mPut S1 0 12 (nI (T / Nat.gcd T 100))) 0 13 (nI (100 / Nat.gcd T 100))) := by
              simp (maxDischargeDepth := 40) only [f_X6_misheard, hL, gc_0, gc_1, gc_2, gc_3, gc_4, gc_5, Ly_put, kcf, kca, x_hasW _ ho hL hr w7, x_hasS _ ho hL hr hf, x_cell, x_kind, x_iscall, x_isimage, i_in, c1, c2, c3, c4, c5, x1, f_X6_misheard_155, x2, kf, mCp_e, mC_e, mCv_e, mZ_0, mZ_1, mZ_ifb, if_true, if_false, n10, eq_self, reduceCtorEq, Bool.false_eq_true, Nat.add_zero, Nat.reduceAdd]
            have hLa : Ly (mPut (mPut S1 0 12 (nI (T / Nat.gcd T 100))) 0 13 (nI (100 / Nat.gcd T 100))) := by simp (maxDischargeDepth := 40) only [x2, Ly_put, kcf]
            generalize hU : mPut (mPut S1 0 12 (nI (T / Nat.gcd T 100))) 0 13 (nI (100 / Nat.gcd T 100)) = U at cx hLa
            have fU : ∀ q, q ≠ 0 → U.2.1 q = S1.2.1 q := fun q hq => by rw [← hU, mPut_r _ _ _ _ _ hq, mPut_r _ _ _ _ _ hq]
            have frq : ∀ q, q ≠ 0 → (q < 65 ∨ 70 ≤ q) → U.2.1 q = S.2.1 q := fun q hq h => by rw [fU q hq, x3.2.1 q h]
            have lU : U.2.2 = S.2.2 := by rw [← hU]; exact x3.2.2
            have mkU : MK U k := MK_sa (fun q a b => frq q (by omega) (by omega)) hm
            have ym := y_ml hLa I.2.1 mkU hs hi hd he hc'
            rw [te] at ym
            have yl := y_lay hLa tl
            have cy : f_X7_misheard (nI 83) (nI s) (nI i) (nI d) (nI e) (nI c) U = some (1, mPutL (mPutL U 83 25 (lN (T / Nat.gcd T 100))) 83 26 (lN (100 / Nat.gcd T 100))) := by
              simp (maxDischargeDepth := 40) only [f_X7_misheard, hLa, gc_0, gc_1, gc_2, gc_3, gc_4, gc_5, Ly_put, kcf, kca, y_hasW _ hLa mkU.2.1 w7, y_hasS _ hLa mkU.2.1 hf, y_iscall, i_in, c1, c2, c3, c4, c5, ym, f_X7_misheard_200, yl, mCp_e, mC_e, mCv_e, mZ_0, mZ_1, mZ_ifb, if_true, if_false, n10, eq_self, reduceCtorEq, Bool.false_eq_true, Nat.add_zero, Nat.reduceAdd]
            have I' := I
            obtain ⟨⟨n, b, t⟩, f', ct, im, wy⟩ := I'.2.2.2.2
            have gq : Nat.gcd T 100 ≤ 100 := Nat.gcd_le_right _ (by decide)
            have q1 : T / Nat.gcd T 100 ≤ T := Nat.div_le_self _ _
            have q2 : 100 / Nat.gcd T 100 ≤ 100 := Nat.div_le_self _ _
            refine ⟨1, U, _, cx, hLa.1, cy, Ly_putL (Ly_putL hLa), ⟨k, I.2.1, CK_sa (fun q a b => frq q (by omega) (by omega)) I.2.2.1, MK_sa (fun q a b => frq q (by omega) (by omega)) hm⟩, ⟨n, b, TX_sa (frq _ (by decide) (by decide)) (frq _ (by decide) (by decide)) (congrFun (frq _ (by decide) (by decide)) _) (frq _ (by decide) (by decide)) t⟩, ⟨?_, ?_⟩, ?_, ⟨IM_sa (by decide) (fun q a b => frq q (by omega) (by omega)) (frq _ (by decide) (by decide)) (frq _ (by decide) (by decide)) im.1, IM_sa (by decide) (fun q a b => frq q (by omega) (by omega)) (frq _ (by decide) (by decide)) (frq _ (by decide) (by decide)) im.2⟩, WY_sa (congrFun (frq _ (by decide) (by decide)) _) (frq _ (by decide) (by decide)) wy⟩
            · show (mPutL (mPutL U 83 25 _) 83 26 _).2.2 83 25 = (U.2.1 0 12).toInt64
              rw [mPutL_l, if_neg (by decide), mPutL_l, if_pos ⟨rfl, rfl⟩, ← hU, mPut_g, if_neg (by decide), mPut_g, if_pos ⟨rfl, rfl⟩, nI_l (by omega)]
            · show (mPutL (mPutL U 83 25 _) 83 26 _).2.2 83 26 = (U.2.1 0 13).toInt64
              rw [mPutL_l, if_pos ⟨rfl, rfl⟩, ← hU, mPut_g, if_pos ⟨rfl, rfl⟩, nI_l (by omega)]
            · have z : ∀ j, 14 ≤ j → U.2.1 0 j = S.2.1 0 j := fun j hj => by
                rw [← hU, mPut_g, if_neg (by omega), mPut_g, if_neg (by omega), x3.2.1 0 (by omega)]
              have z84 : U.2.1 84 = S.2.1 84 := frq _ (by decide) (by decide)
              obtain ⟨ct1, ct2, ct3⟩ := ct
              refine ⟨?_, ?_, ?_⟩
              · show U.2.1 0 14 = U.2.1 84 0
                rw [z 14 (by decide), z84]
                exact ct1
              · show U.2.1 0 15 = U.2.1 84 1
                rw [z 15 (by decide), z84]
                exact ct2
              · show U.2.1 0 16 = U.2.1 84 2
                rw [z 16 (by decide), z84]
                exact ct3
