theorem c29 {S : mS} {ρ : Type} {K : Int32 → Option ρ} (hL : Ly S) : mXr (nI 29) (nI 0) S K = K (nI 30) ∧ mXr (nI 29) (nI 1) S K = K (nI 44) := ⟨mXr_e hL.1 rfl (by decide) (Ly_at hL 29 0 30 (by decide) (by decide) (by decide)) (by decide), mXr_e hL.1 rfl (by decide) (Ly_at hL 29 1 44 (by decide) (by decide) (by decide)) (by decide)⟩
theorem k58 (i : Nat) (v : Int32) {S : mS} (hL : Ly S) : Ly (mPut S 58 i v) := Ly_put hL (cst_arr (Or.inr (Or.inr rfl)))
theorem o_image0 {S : mS} (H : Inv S) : Agr (f_X6_image (nI 0) (nI 0)) (f_X7_image (nI 83) (nI 0)) S := by
  obtain ⟨k, I⟩ := Inv_k H
  have hL := I.1
  have hv : VH k.h := I.2.1.1
  have hr : RH S 2 k.h := I.2.2.1.2.1
  have hm : MK S k := I.2.2.2.1
  have hq : RM S k.h := hm.2.1
  have ho : HO 2 := Or.inl rfl
  have hw := hv.1
  have hf := hv.2.1
  have w7 : k.h.w ≤ 7 := by omega
  have c1 : dN 2 (nI 0) = true := dN_nI (by decide) (by decide)
  obtain ⟨E, e1, e2, e3, e4⟩ := x_sc_30_1 hL I.2.1 I.2.2.1
  obtain ⟨U, hU⟩ : ∃ U, U = mPut E 58 0 (nI 1) := ⟨_, rfl⟩
  have hLU : Ly U := by rw [hU]; exact k58 _ _ e2
  have fU : ∀ q, q ≠ 58 → (q < 30 ∨ 30 + 14 ≤ q) → U.2.1 q = S.2.1 q := fun q h1 h2 => by rw [hU, mPut_r _ _ _ _ _ h1, e4.2.1 q h2]
  have lU : U.2.2 = S.2.2 := by rw [hU]; exact e4.2.2
  have cx : f_X6_image (nI 0) (nI 0) S = some (1, U) := by
    rw [hU]
    simp (maxDischargeDepth := 40) only [f_X6_image, x_isimage, c1, hL, gc_0, gc_1, gc_2, gc_3, gc_4, gc_5, Ly_put, kcf, kca, (c29 hL).1, (c29 hL).2, e1, e2, bo1, show (0 : Nat) < 2 by decide, show (1 : Nat) < 2 by decide, mCp_e, mC_e, mCv_e, mZ_0, mZ_1, mZ_ifb, if_true, if_false, n10, eq_self, reduceCtorEq, Bool.false_eq_true, Nat.add_zero, Nat.reduceAdd]
  have mkU : MK U k := MK_sa (fun q a b => fU q (by omega) (by omega)) hm
  have ckU : CK U 30 k := by rw [hU]; exact CK_sa (fun q a b => mPut_r _ _ _ _ _ (by omega)) e3
  have hLV : Ly (mPut U 99 0 1) := Ly_put hLU (cst_arr (Or.inl rfl))
  have mkV : MK (mPut U 99 0 1) k := MK_sa (fun q a b => mPut_r _ _ _ _ _ (by omega)) mkU
  obtain ⟨W, w1, w2, w3, w4, w5⟩ := y_layAll (a := 98) (t := 0) hLV I.2.1 mkV rfl (Or.inr rfl) (by decide)
  have e170 : 170 * nI 0 = nI 0 := nI_mul 170 0
  have cy : f_X7_image (nI 83) (nI 0) U = some (1, W) := by
    simp (maxDischargeDepth := 40) only [f_X7_image, i_in, c1, hLU, gc_0, gc_1, gc_2, gc_3, gc_4, gc_5, Ly_put, kcf, kca, hLV, e170, w1, show (0 : Nat) < 2 by decide, show (1 : Nat) < 2 by decide, mCp_e, mC_e, mCv_e, mZ_0, mZ_1, mZ_ifb, if_true, if_false, n10, eq_self, reduceCtorEq, Bool.false_eq_true, Nat.add_zero, Nat.reduceAdd]
  have fW : ∀ q, q ≠ 98 → q ≠ 99 → W.2.1 q = U.2.1 q := fun q h1 h2 => by rw [w3.2.1 q (by omega), mPut_r _ _ _ _ _ h2]
  have fS : ∀ q, q ≠ 58 → q ≠ 98 → q ≠ 99 → (q < 30 ∨ 30 + 14 ≤ q) → W.2.1 q = S.2.1 q := fun q h1 h2 h3 h4 => by rw [fW q h2 h3, fU q h1 h4]
  have lW : W.2.2 = S.2.2 := by rw [w3.2.2]; exact lU
  have W99 : ∀ j, W.2.1 99 j = if j = 0 then 1 else S.2.1 99 j := fun j => by
    rw [w3.2.1 99 (by omega), mPut_g, fU 99 (by decide) (by omega)]
    simp (maxDischargeDepth := 40) only [true_and]
  have W58 : ∀ j, W.2.1 58 j = if j = 0 then nI 1 else S.2.1 58 j := fun j => by
    rw [fW 58 (by decide) (by decide), hU, mPut_g, e4.2.1 58 (by omega)]
    simp (maxDischargeDepth := 40) only [true_and]
  have I' := I
  obtain ⟨⟨n, b, t⟩, ⟨f1, f2⟩, ⟨ct1, ct2, ct3⟩, im, wy⟩ := I'.2.2.2.2
  have new : IM W 0 := Or.inr ⟨by rw [W58, if_pos rfl], by rw [W99, if_pos rfl]; rfl, k, I.2.1, CK_sa (fun q a b => fW q (by omega) (by omega)) ckU, w4⟩
  have old : IM W 1 := IM_rg (by decide) (fun q a b => fS q (by omega) (by omega) (by omega) (by omega)) (by rw [W58, if_neg (by decide)]) (by rw [W99, if_neg (by decide)]) (fun j a b => by rw [w5 j (by omega), mPut_r _ _ _ _ _ (by decide), fU 98 (by decide) (by omega)]) im.2
  have z : ∀ j, W.2.1 0 j = S.2.1 0 j := fun j => by rw [fS 0 (by decide) (by decide) (by decide) (by omega)]
  have z84 : ∀ j, W.2.1 84 j = S.2.1 84 j := fun j => by rw [fS 84 (by decide) (by decide) (by decide) (by omega)]
  refine ⟨1, U, W, cx, hLU.1, cy, w2, ⟨k, I.2.1, CK_sa (fun q a b => fS q (by omega) (by omega) (by omega) (by omega)) I.2.2.1, MK_sa (fun q a b => fS q (by omega) (by omega) (by omega) (by omega)) hm⟩, ⟨n, b, TX_sa (fS _ (by decide) (by decide) (by decide) (by omega)) (fS _ (by decide) (by decide) (by decide) (by omega)) (congrFun (fS _ (by decide) (by decide) (by decide) (by omega)) _) (fS _ (by decide) (by decide) (by decide) (by omega)) t⟩, ⟨by rw [lW, z]; exact f1, by rw [lW, z]; exact f2⟩, ⟨by rw [z, z84]; exact ct1, by rw [z, z84]; exact ct2, by rw [z, z84]; exact ct3⟩, ⟨new, old⟩, WY_sa (congrFun (fS _ (by decide) (by decide) (by decide) (by omega)) _) (fS _ (by decide) (by decide) (by decide) (by omega)) wy⟩
theorem o_image1 {S : mS} (H : Inv S) : Agr (f_X6_image (nI 0) (nI 1)) (f_X7_image (nI 83) (nI 1)) S := by
  obtain ⟨k, I⟩ := Inv_k H
  have hL := I.1
  have hv : VH k.h := I.2.1.1
  have hr : RH S 2 k.h := I.2.2.1.2.1
  have hm : MK S k := I.2.2.2.1
  have hq : RM S k.h := hm.2.1
  have ho : HO 2 := Or.inl rfl
  have hw := hv.1
  have hf := hv.2.1
  have w7 : k.h.w ≤ 7 := by omega
  have c1 : dN 2 (nI 1) = true := dN_nI (by decide) (by decide)
  obtain ⟨E, e1, e2, e3, e4⟩ := x_sc_44_1 hL I.2.1 I.2.2.1
  obtain ⟨U, hU⟩ : ∃ U, U = mPut E 58 1 (nI 1) := ⟨_, rfl⟩
  have hLU : Ly U := by rw [hU]; exact k58 _ _ e2
  have fU : ∀ q, q ≠ 58 → (q < 44 ∨ 44 + 14 ≤ q) → U.2.1 q = S.2.1 q := fun q h1 h2 => by rw [hU, mPut_r _ _ _ _ _ h1, e4.2.1 q h2]
  have lU : U.2.2 = S.2.2 := by rw [hU]; exact e4.2.2
  have cx : f_X6_image (nI 0) (nI 1) S = some (1, U) := by
    rw [hU]
    simp (maxDischargeDepth := 40) only [f_X6_image, x_isimage, c1, hL, gc_0, gc_1, gc_2, gc_3, gc_4, gc_5, Ly_put, kcf, kca, (c29 hL).1, (c29 hL).2, e1, e2, bo1, show (0 : Nat) < 2 by decide, show (1 : Nat) < 2 by decide, mCp_e, mC_e, mCv_e, mZ_0, mZ_1, mZ_ifb, if_true, if_false, n10, eq_self, reduceCtorEq, Bool.false_eq_true, Nat.add_zero, Nat.reduceAdd]
  have mkU : MK U k := MK_sa (fun q a b => fU q (by omega) (by omega)) hm
  have ckU : CK U 44 k := by rw [hU]; exact CK_sa (fun q a b => mPut_r _ _ _ _ _ (by omega)) e3
  have hLV : Ly (mPut U 99 1 1) := Ly_put hLU (cst_arr (Or.inl rfl))
  have mkV : MK (mPut U 99 1 1) k := MK_sa (fun q a b => mPut_r _ _ _ _ _ (by omega)) mkU
  obtain ⟨W, w1, w2, w3, w4, w5⟩ := y_layAll (a := 98) (t := 170) hLV I.2.1 mkV rfl (Or.inr rfl) (by decide)
  have e170 : 170 * nI 1 = nI 170 := nI_mul 170 1
  have cy : f_X7_image (nI 83) (nI 1) U = some (1, W) := by
    simp (maxDischargeDepth := 40) only [f_X7_image, i_in, c1, hLU, gc_0, gc_1, gc_2, gc_3, gc_4, gc_5, Ly_put, kcf, kca, hLV, e170, w1, show (0 : Nat) < 2 by decide, show (1 : Nat) < 2 by decide, mCp_e, mC_e, mCv_e, mZ_0, mZ_1, mZ_ifb, if_true, if_false, n10, eq_self, reduceCtorEq, Bool.false_eq_true, Nat.add_zero, Nat.reduceAdd]
  have fW : ∀ q, q ≠ 98 → q ≠ 99 → W.2.1 q = U.2.1 q := fun q h1 h2 => by rw [w3.2.1 q (by omega), mPut_r _ _ _ _ _ h2]
  have fS : ∀ q, q ≠ 58 → q ≠ 98 → q ≠ 99 → (q < 44 ∨ 44 + 14 ≤ q) → W.2.1 q = S.2.1 q := fun q h1 h2 h3 h4 => by rw [fW q h2 h3, fU q h1 h4]
  have lW : W.2.2 = S.2.2 := by rw [w3.2.2]; exact lU
  have W99 : ∀ j, W.2.1 99 j = if j = 1 then 1 else S.2.1 99 j := fun j => by
    rw [w3.2.1 99 (by omega), mPut_g, fU 99 (by decide) (by omega)]
    simp (maxDischargeDepth := 40) only [true_and]
  have W58 : ∀ j, W.2.1 58 j = if j = 1 then nI 1 else S.2.1 58 j := fun j => by
    rw [fW 58 (by decide) (by decide), hU, mPut_g, e4.2.1 58 (by omega)]
    simp (maxDischargeDepth := 40) only [true_and]
  have I' := I
  obtain ⟨⟨n, b, t⟩, ⟨f1, f2⟩, ⟨ct1, ct2, ct3⟩, im, wy⟩ := I'.2.2.2.2
  have new : IM W 1 := Or.inr ⟨by rw [W58, if_pos rfl], by rw [W99, if_pos rfl]; rfl, k, I.2.1, CK_sa (fun q a b => fW q (by omega) (by omega)) ckU, w4⟩
  have old : IM W 0 := IM_rg (by decide) (fun q a b => fS q (by omega) (by omega) (by omega) (by omega)) (by rw [W58, if_neg (by decide)]) (by rw [W99, if_neg (by decide)]) (fun j a b => by rw [w5 j (by omega), mPut_r _ _ _ _ _ (by decide), fU 98 (by decide) (by omega)]) im.1
  have z : ∀ j, W.2.1 0 j = S.2.1 0 j := fun j => by rw [fS 0 (by decide) (by decide) (by decide) (by omega)]
  have z84 : ∀ j, W.2.1 84 j = S.2.1 84 j := fun j => by rw [fS 84 (by decide) (by decide) (by decide) (by omega)]
  refine ⟨1, U, W, cx, hLU.1, cy, w2, ⟨k, I.2.1, CK_sa (fun q a b => fS q (by omega) (by omega) (by omega) (by omega)) I.2.2.1, MK_sa (fun q a b => fS q (by omega) (by omega) (by omega) (by omega)) hm⟩, ⟨n, b, TX_sa (fS _ (by decide) (by decide) (by decide) (by omega)) (fS _ (by decide) (by decide) (by decide) (by omega)) (congrFun (fS _ (by decide) (by decide) (by decide) (by omega)) _) (fS _ (by decide) (by decide) (by decide) (by omega)) t⟩, ⟨by rw [lW, z]; exact f1, by rw [lW, z]; exact f2⟩, ⟨by rw [z, z84]; exact ct1, by rw [z, z84]; exact ct2, by rw [z, z84]; exact ct3⟩, ⟨old, new⟩, WY_sa (congrFun (fS _ (by decide) (by decide) (by decide) (by omega)) _) (fS _ (by decide) (by decide) (by decide) (by omega)) wy⟩
theorem o_image {S : mS} (H : Inv S) (v1 : Int32) : Agr (f_X6_image (nI 0) v1) (f_X7_image (nI 83) v1) S := by
  obtain ⟨k, I⟩ := Inv_k H
  have hL := I.1
  have hv : VH k.h := I.2.1.1
  have hr : RH S 2 k.h := I.2.2.1.2.1
  have hm : MK S k := I.2.2.2.1
  have hq : RM S k.h := hm.2.1
  have ho : HO 2 := Or.inl rfl
  have hw := hv.1
  have hf := hv.2.1
  have w7 : k.h.w ≤ 7 := by omega
  cases c1 : dN 2 v1 with
  | false =>
    exact Agr_ref (v := -2) 0 (by decide) I (by simp (maxDischargeDepth := 40) only [f_X6_image, hL, gc_0, gc_1, gc_2, gc_3, gc_4, gc_5, Ly_put, kcf, kca, x_hasW _ ho hL hr w7, x_hasS _ ho hL hr hf, x_cell, x_kind, x_iscall, x_isimage, i_in, c1, x_bad hL, mCp_e, mC_e, mCv_e, mZ_0, mZ_1, mZ_ifb, if_true, if_false, n10, eq_self, reduceCtorEq, Bool.false_eq_true, Nat.add_zero, Nat.reduceAdd]) (fun S1 hL1 hm1 => by simp (maxDischargeDepth := 40) only [f_X7_image, hL1, gc_0, gc_1, gc_2, gc_3, gc_4, gc_5, Ly_put, kcf, kca, y_hasW _ hL1 hm1.2.1 w7, y_hasS _ hL1 hm1.2.1 hf, y_cell, y_iscall, i_in, c1, y_bad hL1, mCp_e, mC_e, mCv_e, mZ_0, mZ_1, mZ_ifb, if_true, if_false, n10, eq_self, reduceCtorEq, Bool.false_eq_true, Nat.add_zero, Nat.reduceAdd])
  | true =>
    obtain ⟨i, hi, rfl⟩ := dN_some c1 (by decide)
    rcases (show i = 0 ∨ i = 1 by omega) with rfl | rfl
    · exact o_image0 H
    · exact o_image1 H
