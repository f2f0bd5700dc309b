/-! a State copied -/
theorem x_rc {S : mS} {r s n : Nat} (hL : Ly S) (kr : mKd r = 3) (ks : mKd s = 3) (er : S.2.1 r 2 = nI (r + 1)) (es : S.2.1 s 2 = nI (s + 1)) (k1 : mKd (r + 1) = 8) (k2 : mKd (s + 1) = 8) (l1 : mLn (r + 1) = 18) (l2 : mLn (s + 1) = 18) (hn : S.2.1 s 3 = nI n) (d1 : s ≠ r + 1) (d2 : s + 1 ≠ r) (hc : cst r 3 = false) : ∃ S1, f_X3_copy (nI r) (nI s) S = some S1 ∧ Ly S1 ∧ Fr r (r + 2) S S1 ∧ S1.2.1 r 3 = nI n ∧ ∀ i, i < 18 → S1.2.1 (r + 1) i = S.2.1 (s + 1) i := by
  have lr := mKd_lt kr (by decide)
  have ls := mKd_lt ks (by decide)
  have hL1 : Ly (mRow S (r + 1) (va_cpy (S.2.1 (s + 1)) (S.2.1 (r + 1)) 0 0 18)) := Ly_row hL (fun _ => cst_arr (Or.inl k1))
  have hn1 : (mRow S (r + 1) (va_cpy (S.2.1 (s + 1)) (S.2.1 (r + 1)) 0 0 18)).2.1 s 3 = nI n := by rw [mRow_r _ _ _ _ d1]; exact hn
  refine ⟨mPut (mRow S (r + 1) (va_cpy (S.2.1 (s + 1)) (S.2.1 (r + 1)) 0 0 18)) r 3 (nI n), ?_, Ly_put hL1 hc, Fr_tr (Fr_row (by omega) (by omega)) (Fr_put (by omega) (by omega)), by rw [mPut_g, if_pos ⟨rfl, rfl⟩], fun i hi => ?_⟩
  · rw [f_X3_copy, mGr_e hL.1 ks (by decide) es (by omega), mGr_e hL.1 kr (by decide) er (by omega)]
    have c := cy_i (ρ := mS) (a := 0) (b := 0) (n := 18) (K := fun S3 => mG 3 3 (nI s) S3 (fun r4 => mP 3 3 (nI r) r4 S3 (fun S5 => some S5))) hL k2 k1 (by rw [l2]; decide) (by rw [l1]; decide)
    refine Eq.trans c ?_
    rw [mG_e hL1.1 ks (by decide), hn1, mP_e hL1.1 kr (by decide)]
  · rw [mPut_r _ _ _ _ _ (by omega), mRow_g, if_pos rfl, va_in hi]
theorem x_pc {S : mS} {r s n : Nat} (hL : Ly S) (kr : mKd r = 2) (ks : mKd s = 2) (er : S.2.1 r 0 = nI (r + 1)) (es : S.2.1 s 0 = nI (s + 1)) (k1 : mKd (r + 1) = 8) (k2 : mKd (s + 1) = 8) (l1 : mLn (r + 1) = 88) (l2 : mLn (s + 1) = 88) (hn : S.2.1 s 1 = nI n) (d1 : s ≠ r + 1) (d2 : s + 1 ≠ r) (hc : cst r 1 = false) : ∃ S1, f_X2_copy (nI r) (nI s) S = some S1 ∧ Ly S1 ∧ Fr r (r + 2) S S1 ∧ S1.2.1 r 1 = nI n ∧ ∀ i, i < 88 → S1.2.1 (r + 1) i = S.2.1 (s + 1) i := by
  have lr := mKd_lt kr (by decide)
  have ls := mKd_lt ks (by decide)
  have hL1 : Ly (mRow S (r + 1) (va_cpy (S.2.1 (s + 1)) (S.2.1 (r + 1)) 0 0 88)) := Ly_row hL (fun _ => cst_arr (Or.inl k1))
  have hn1 : (mRow S (r + 1) (va_cpy (S.2.1 (s + 1)) (S.2.1 (r + 1)) 0 0 88)).2.1 s 1 = nI n := by rw [mRow_r _ _ _ _ d1]; exact hn
  refine ⟨mPut (mRow S (r + 1) (va_cpy (S.2.1 (s + 1)) (S.2.1 (r + 1)) 0 0 88)) r 1 (nI n), ?_, Ly_put hL1 hc, Fr_tr (Fr_row (by omega) (by omega)) (Fr_put (by omega) (by omega)), by rw [mPut_g, if_pos ⟨rfl, rfl⟩], fun i hi => ?_⟩
  · rw [f_X2_copy, mGr_e hL.1 ks (by decide) es (by omega), mGr_e hL.1 kr (by decide) er (by omega)]
    have c := cy_i (ρ := mS) (a := 0) (b := 0) (n := 88) (K := fun S3 => mG 2 1 (nI s) S3 (fun r4 => mP 2 1 (nI r) r4 S3 (fun S5 => some S5))) hL k2 k1 (by rw [l2]; decide) (by rw [l1]; decide)
    refine Eq.trans c ?_
    rw [mG_e hL1.1 ks (by decide), hn1, mP_e hL1.1 kr (by decide)]
  · rw [mPut_r _ _ _ _ _ (by omega), mRow_g, if_pos rfl, va_in hi]
theorem RR_cp {S S1 : mS} {q1 a1 q2 a2 w : Nat} {p : RW} (h : RR S q2 3 a2 0 3 w p) (hw : w ≤ 3) (h6 : p.1 ≤ 6) (e1 : S1.2.1 q1 3 = nI p.1) (e2 : ∀ i, i < 18 → S1.2.1 a1 i = S.2.1 a2 i) : RR S1 q1 3 a1 0 3 w p :=
  ⟨e1, fun r hr c hc => by rw [Nat.zero_add, e2 _ (by omega)]; have := h.2 r hr c hc; rwa [Nat.zero_add] at this⟩
theorem RP_cp {S S1 : mS} {q1 a1 q2 a2 w f : Nat} {p : RW} (h : RP S q2 1 a2 0 w f p) (hw : w ≤ 3) (hf : f ≤ 7) (h8 : p.1 ≤ 8) (e1 : S1.2.1 q1 1 = nI p.1) (e2 : ∀ i, i < 88 → S1.2.1 a1 i = S.2.1 a2 i) : RP S1 q1 1 a1 0 w f p :=
  ⟨e1, fun r hr => ⟨by rw [e2 _ (by omega)]; exact (h.2 r hr).1, fun i hi => by rw [e2 _ (by omega)]; exact (h.2 r hr).2.1 i hi, fun i hi => by rw [e2 _ (by omega)]; exact (h.2 r hr).2.2 i hi⟩⟩
theorem x_sc_30_1 {S : mS} {k : KS} (hL : Ly S) (v : VK k) (ck : CK S 1 k) : ∃ S1, f_X5_copy (nI 30) (nI 1) S = some S1 ∧ Ly S1 ∧ CK S1 30 k ∧ Fr 30 (30 + 14) S S1 := by
  obtain ⟨c1, c2, c3, c4, c5, c6⟩ := ck
  obtain ⟨A, x1, x2, x3, x4⟩ := x_copy (o := 31) (q := 2) (Or.inr (Or.inr (Or.inl rfl))) (Or.inl rfl) (by decide) hL c2 v.1.1 v.1.2.1
  have fA : Fr 30 (30 + 14) S A := Fr_wd x4 (by decide) (by decide)
  obtain ⟨B, y1, y2, y3, y4, y5⟩ := x_rc (r := 36) (s := 7) (n := k.seen.1) x2 rfl rfl (Ly_at x2 _ _ _ (by decide) (by decide) (by decide)) (Ly_at x2 _ _ _ (by decide) (by decide) (by decide)) rfl rfl rfl rfl (by rw [fA.2.1 7 (by omega)]; exact c3.1) (by decide) (by decide) (by decide)
  have fB : Fr 30 (30 + 14) S B := Fr_tr fA (Fr_wd y3 (by decide) (by decide))
  obtain ⟨C, z1, z2, z3, z4, z5⟩ := x_rc (r := 38) (s := 9) (n := k.notes.1) y2 rfl rfl (Ly_at y2 _ _ _ (by decide) (by decide) (by decide)) (Ly_at y2 _ _ _ (by decide) (by decide) (by decide)) rfl rfl rfl rfl (by rw [fB.2.1 9 (by omega)]; exact c4.1) (by decide) (by decide) (by decide)
  have fC : Fr 30 (30 + 14) S C := Fr_tr fB (Fr_wd z3 (by decide) (by decide))
  obtain ⟨D, u1, u2, u3, u4, u5⟩ := x_rc (r := 40) (s := 11) (n := k.marks.1) z2 rfl rfl (Ly_at z2 _ _ _ (by decide) (by decide) (by decide)) (Ly_at z2 _ _ _ (by decide) (by decide) (by decide)) rfl rfl rfl rfl (by rw [fC.2.1 11 (by omega)]; exact c5.1) (by decide) (by decide) (by decide)
  have fD : Fr 30 (30 + 14) S D := Fr_tr fC (Fr_wd u3 (by decide) (by decide))
  obtain ⟨E, w1, w2, w3, w4, w5⟩ := x_pc (r := 42) (s := 13) (n := k.past.1) u2 rfl rfl (Ly_at u2 _ _ _ (by decide) (by decide) (by decide)) (Ly_at u2 _ _ _ (by decide) (by decide) (by decide)) rfl rfl rfl rfl (by rw [fD.2.1 13 (by omega)]; exact c6.1) (by decide) (by decide) (by decide)
  have fE : Fr 30 (30 + 14) S E := Fr_tr fD (Fr_wd w3 (by decide) (by decide))
  have e5 : E.2.1 1 5 = nI k.fold := by rw [fE.2.1 1 (by omega)]; exact c1
  refine ⟨mPut E 30 5 (nI k.fold), ?_, Ly_put w2 (by decide), ⟨by rw [mPut_g, if_pos ⟨rfl, rfl⟩], ?_, ?_, ?_, ?_, ?_⟩, Fr_tr fE (Fr_put (by decide) (by decide))⟩
  · simp (maxDischargeDepth := 40) only [f_X5_copy, hL, gc_0, gc_1, gc_2, gc_3, gc_4, gc_5, Ly_put, kcf, kca, x1, x2, y1, y2, z1, z2, u1, u2, w1, w2, e5, mCp_e, mC_e, mCv_e, mZ_0, mZ_1, mZ_ifb, if_true, if_false, n10, eq_self, reduceCtorEq, Bool.false_eq_true, Nat.add_zero, Nat.reduceAdd]
  · exact RH_sa (fun q p1 p2 => by rw [mPut_r _ _ _ _ _ (by omega), w3.2.1 q (by omega), u3.2.1 q (by omega), z3.2.1 q (by omega), y3.2.1 q (by omega)]) x3
  · refine RR_cp c3 (by decide) (by have := v.2.2.2.1.1; omega) ?_ (fun i hi => ?_)
    · rw [mPut_r _ _ _ _ _ (by decide), w3.2.1 36 (by omega), u3.2.1 36 (by omega), z3.2.1 36 (by omega)]
      exact y4
    · rw [mPut_r _ _ _ _ _ (by decide), w3.2.1 37 (by omega), u3.2.1 37 (by omega), z3.2.1 37 (by omega)]
      exact (y5 i hi).trans (by rw [fA.2.1 8 (by omega)])
  · refine RR_cp c4 (by decide) v.2.2.2.2.1.1 ?_ (fun i hi => ?_)
    · rw [mPut_r _ _ _ _ _ (by decide), w3.2.1 38 (by omega), u3.2.1 38 (by omega)]
      exact z4
    · rw [mPut_r _ _ _ _ _ (by decide), w3.2.1 39 (by omega), u3.2.1 39 (by omega)]
      exact (z5 i hi).trans (by rw [fB.2.1 10 (by omega)])
  · refine RR_cp c5 (by decide) v.2.2.2.2.2.1.1 ?_ (fun i hi => ?_)
    · rw [mPut_r _ _ _ _ _ (by decide), w3.2.1 40 (by omega)]
      exact u4
    · rw [mPut_r _ _ _ _ _ (by decide), w3.2.1 41 (by omega)]
      exact (u5 i hi).trans (by rw [fC.2.1 12 (by omega)])
  · refine RP_cp c6 v.1.1 v.1.2.1 v.2.2.2.2.2.2.1 ?_ (fun i hi => ?_)
    · rw [mPut_r _ _ _ _ _ (by decide)]
      exact w4
    · rw [mPut_r _ _ _ _ _ (by decide)]
      exact (w5 i hi).trans (by rw [fD.2.1 14 (by omega)])
theorem x_sc_44_1 {S : mS} {k : KS} (hL : Ly S) (v : VK k) (ck : CK S 1 k) : ∃ S1, f_X5_copy (nI 44) (nI 1) S = some S1 ∧ Ly S1 ∧ CK S1 44 k ∧ Fr 44 (44 + 14) S S1 := by
  obtain ⟨c1, c2, c3, c4, c5, c6⟩ := ck
  obtain ⟨A, x1, x2, x3, x4⟩ := x_copy (o := 45) (q := 2) (Or.inr (Or.inr (Or.inr (Or.inl rfl)))) (Or.inl rfl) (by decide) hL c2 v.1.1 v.1.2.1
  have fA : Fr 44 (44 + 14) S A := Fr_wd x4 (by decide) (by decide)
  obtain ⟨B, y1, y2, y3, y4, y5⟩ := x_rc (r := 50) (s := 7) (n := k.seen.1) x2 rfl rfl (Ly_at x2 _ _ _ (by decide) (by decide) (by decide)) (Ly_at x2 _ _ _ (by decide) (by decide) (by decide)) rfl rfl rfl rfl (by rw [fA.2.1 7 (by omega)]; exact c3.1) (by decide) (by decide) (by decide)
  have fB : Fr 44 (44 + 14) S B := Fr_tr fA (Fr_wd y3 (by decide) (by decide))
  obtain ⟨C, z1, z2, z3, z4, z5⟩ := x_rc (r := 52) (s := 9) (n := k.notes.1) y2 rfl rfl (Ly_at y2 _ _ _ (by decide) (by decide) (by decide)) (Ly_at y2 _ _ _ (by decide) (by decide) (by decide)) rfl rfl rfl rfl (by rw [fB.2.1 9 (by omega)]; exact c4.1) (by decide) (by decide) (by decide)
  have fC : Fr 44 (44 + 14) S C := Fr_tr fB (Fr_wd z3 (by decide) (by decide))
  obtain ⟨D, u1, u2, u3, u4, u5⟩ := x_rc (r := 54) (s := 11) (n := k.marks.1) z2 rfl rfl (Ly_at z2 _ _ _ (by decide) (by decide) (by decide)) (Ly_at z2 _ _ _ (by decide) (by decide) (by decide)) rfl rfl rfl rfl (by rw [fC.2.1 11 (by omega)]; exact c5.1) (by decide) (by decide) (by decide)
  have fD : Fr 44 (44 + 14) S D := Fr_tr fC (Fr_wd u3 (by decide) (by decide))
  obtain ⟨E, w1, w2, w3, w4, w5⟩ := x_pc (r := 56) (s := 13) (n := k.past.1) u2 rfl rfl (Ly_at u2 _ _ _ (by decide) (by decide) (by decide)) (Ly_at u2 _ _ _ (by decide) (by decide) (by decide)) rfl rfl rfl rfl (by rw [fD.2.1 13 (by omega)]; exact c6.1) (by decide) (by decide) (by decide)
  have fE : Fr 44 (44 + 14) S E := Fr_tr fD (Fr_wd w3 (by decide) (by decide))
  have e5 : E.2.1 1 5 = nI k.fold := by rw [fE.2.1 1 (by omega)]; exact c1
  refine ⟨mPut E 44 5 (nI k.fold), ?_, Ly_put w2 (by decide), ⟨by rw [mPut_g, if_pos ⟨rfl, rfl⟩], ?_, ?_, ?_, ?_, ?_⟩, Fr_tr fE (Fr_put (by decide) (by decide))⟩
  · simp (maxDischargeDepth := 40) only [f_X5_copy, hL, gc_0, gc_1, gc_2, gc_3, gc_4, gc_5, Ly_put, kcf, kca, x1, x2, y1, y2, z1, z2, u1, u2, w1, w2, e5, mCp_e, mC_e, mCv_e, mZ_0, mZ_1, mZ_ifb, if_true, if_false, n10, eq_self, reduceCtorEq, Bool.false_eq_true, Nat.add_zero, Nat.reduceAdd]
  · exact RH_sa (fun q p1 p2 => by rw [mPut_r _ _ _ _ _ (by omega), w3.2.1 q (by omega), u3.2.1 q (by omega), z3.2.1 q (by omega), y3.2.1 q (by omega)]) x3
  · refine RR_cp c3 (by decide) (by have := v.2.2.2.1.1; omega) ?_ (fun i hi => ?_)
    · rw [mPut_r _ _ _ _ _ (by decide), w3.2.1 50 (by omega), u3.2.1 50 (by omega), z3.2.1 50 (by omega)]
      exact y4
    · rw [mPut_r _ _ _ _ _ (by decide), w3.2.1 51 (by omega), u3.2.1 51 (by omega), z3.2.1 51 (by omega)]
      exact (y5 i hi).trans (by rw [fA.2.1 8 (by omega)])
  · refine RR_cp c4 (by decide) v.2.2.2.2.1.1 ?_ (fun i hi => ?_)
    · rw [mPut_r _ _ _ _ _ (by decide), w3.2.1 52 (by omega), u3.2.1 52 (by omega)]
      exact z4
    · rw [mPut_r _ _ _ _ _ (by decide), w3.2.1 53 (by omega), u3.2.1 53 (by omega)]
      exact (z5 i hi).trans (by rw [fB.2.1 10 (by omega)])
  · refine RR_cp c5 (by decide) v.2.2.2.2.2.1.1 ?_ (fun i hi => ?_)
    · rw [mPut_r _ _ _ _ _ (by decide), w3.2.1 54 (by omega)]
      exact u4
    · rw [mPut_r _ _ _ _ _ (by decide), w3.2.1 55 (by omega)]
      exact (u5 i hi).trans (by rw [fC.2.1 12 (by omega)])
  · refine RP_cp c6 v.1.1 v.1.2.1 v.2.2.2.2.2.2.1 ?_ (fun i hi => ?_)
    · rw [mPut_r _ _ _ _ _ (by decide)]
      exact w4
    · rw [mPut_r _ _ _ _ _ (by decide)]
      exact (w5 i hi).trans (by rw [fD.2.1 14 (by omega)])
theorem x_sc_1_30 {S : mS} {k : KS} (hL : Ly S) (v : VK k) (ck : CK S 30 k) : ∃ S1, f_X5_copy (nI 1) (nI 30) S = some S1 ∧ Ly S1 ∧ CK S1 1 k ∧ Fr 1 (1 + 14) S S1 := by
  obtain ⟨c1, c2, c3, c4, c5, c6⟩ := ck
  obtain ⟨A, x1, x2, x3, x4⟩ := x_copy (o := 2) (q := 31) (Or.inl rfl) (Or.inr (Or.inr (Or.inl rfl))) (by decide) hL c2 v.1.1 v.1.2.1
  have fA : Fr 1 (1 + 14) S A := Fr_wd x4 (by decide) (by decide)
  obtain ⟨B, y1, y2, y3, y4, y5⟩ := x_rc (r := 7) (s := 36) (n := k.seen.1) x2 rfl rfl (Ly_at x2 _ _ _ (by decide) (by decide) (by decide)) (Ly_at x2 _ _ _ (by decide) (by decide) (by decide)) rfl rfl rfl rfl (by rw [fA.2.1 36 (by omega)]; exact c3.1) (by decide) (by decide) (by decide)
  have fB : Fr 1 (1 + 14) S B := Fr_tr fA (Fr_wd y3 (by decide) (by decide))
  obtain ⟨C, z1, z2, z3, z4, z5⟩ := x_rc (r := 9) (s := 38) (n := k.notes.1) y2 rfl rfl (Ly_at y2 _ _ _ (by decide) (by decide) (by decide)) (Ly_at y2 _ _ _ (by decide) (by decide) (by decide)) rfl rfl rfl rfl (by rw [fB.2.1 38 (by omega)]; exact c4.1) (by decide) (by decide) (by decide)
  have fC : Fr 1 (1 + 14) S C := Fr_tr fB (Fr_wd z3 (by decide) (by decide))
  obtain ⟨D, u1, u2, u3, u4, u5⟩ := x_rc (r := 11) (s := 40) (n := k.marks.1) z2 rfl rfl (Ly_at z2 _ _ _ (by decide) (by decide) (by decide)) (Ly_at z2 _ _ _ (by decide) (by decide) (by decide)) rfl rfl rfl rfl (by rw [fC.2.1 40 (by omega)]; exact c5.1) (by decide) (by decide) (by decide)
  have fD : Fr 1 (1 + 14) S D := Fr_tr fC (Fr_wd u3 (by decide) (by decide))
  obtain ⟨E, w1, w2, w3, w4, w5⟩ := x_pc (r := 13) (s := 42) (n := k.past.1) u2 rfl rfl (Ly_at u2 _ _ _ (by decide) (by decide) (by decide)) (Ly_at u2 _ _ _ (by decide) (by decide) (by decide)) rfl rfl rfl rfl (by rw [fD.2.1 42 (by omega)]; exact c6.1) (by decide) (by decide) (by decide)
  have fE : Fr 1 (1 + 14) S E := Fr_tr fD (Fr_wd w3 (by decide) (by decide))
  have e5 : E.2.1 30 5 = nI k.fold := by rw [fE.2.1 30 (by omega)]; exact c1
  refine ⟨mPut E 1 5 (nI k.fold), ?_, Ly_put w2 (by decide), ⟨by rw [mPut_g, if_pos ⟨rfl, rfl⟩], ?_, ?_, ?_, ?_, ?_⟩, Fr_tr fE (Fr_put (by decide) (by decide))⟩
  · simp (maxDischargeDepth := 40) only [f_X5_copy, hL, gc_0, gc_1, gc_2, gc_3, gc_4, gc_5, Ly_put, kcf, kca, x1, x2, y1, y2, z1, z2, u1, u2, w1, w2, e5, mCp_e, mC_e, mCv_e, mZ_0, mZ_1, mZ_ifb, if_true, if_false, n10, eq_self, reduceCtorEq, Bool.false_eq_true, Nat.add_zero, Nat.reduceAdd]
  · exact RH_sa (fun q p1 p2 => by rw [mPut_r _ _ _ _ _ (by omega), w3.2.1 q (by omega), u3.2.1 q (by omega), z3.2.1 q (by omega), y3.2.1 q (by omega)]) x3
  · refine RR_cp c3 (by decide) (by have := v.2.2.2.1.1; omega) ?_ (fun i hi => ?_)
    · rw [mPut_r _ _ _ _ _ (by decide), w3.2.1 7 (by omega), u3.2.1 7 (by omega), z3.2.1 7 (by omega)]
      exact y4
    · rw [mPut_r _ _ _ _ _ (by decide), w3.2.1 8 (by omega), u3.2.1 8 (by omega), z3.2.1 8 (by omega)]
      exact (y5 i hi).trans (by rw [fA.2.1 37 (by omega)])
  · refine RR_cp c4 (by decide) v.2.2.2.2.1.1 ?_ (fun i hi => ?_)
    · rw [mPut_r _ _ _ _ _ (by decide), w3.2.1 9 (by omega), u3.2.1 9 (by omega)]
      exact z4
    · rw [mPut_r _ _ _ _ _ (by decide), w3.2.1 10 (by omega), u3.2.1 10 (by omega)]
      exact (z5 i hi).trans (by rw [fB.2.1 39 (by omega)])
  · refine RR_cp c5 (by decide) v.2.2.2.2.2.1.1 ?_ (fun i hi => ?_)
    · rw [mPut_r _ _ _ _ _ (by decide), w3.2.1 11 (by omega)]
      exact u4
    · rw [mPut_r _ _ _ _ _ (by decide), w3.2.1 12 (by omega)]
      exact (u5 i hi).trans (by rw [fC.2.1 41 (by omega)])
  · refine RP_cp c6 v.1.1 v.1.2.1 v.2.2.2.2.2.2.1 ?_ (fun i hi => ?_)
    · rw [mPut_r _ _ _ _ _ (by decide)]
      exact w4
    · rw [mPut_r _ _ _ _ _ (by decide)]
      exact (w5 i hi).trans (by rw [fD.2.1 43 (by omega)])
theorem x_sc_1_44 {S : mS} {k : KS} (hL : Ly S) (v : VK k) (ck : CK S 44 k) : ∃ S1, f_X5_copy (nI 1) (nI 44) S = some S1 ∧ Ly S1 ∧ CK S1 1 k ∧ Fr 1 (1 + 14) S S1 := by
  obtain ⟨c1, c2, c3, c4, c5, c6⟩ := ck
  obtain ⟨A, x1, x2, x3, x4⟩ := x_copy (o := 2) (q := 45) (Or.inl rfl) (Or.inr (Or.inr (Or.inr (Or.inl rfl)))) (by decide) hL c2 v.1.1 v.1.2.1
  have fA : Fr 1 (1 + 14) S A := Fr_wd x4 (by decide) (by decide)
  obtain ⟨B, y1, y2, y3, y4, y5⟩ := x_rc (r := 7) (s := 50) (n := k.seen.1) x2 rfl rfl (Ly_at x2 _ _ _ (by decide) (by decide) (by decide)) (Ly_at x2 _ _ _ (by decide) (by decide) (by decide)) rfl rfl rfl rfl (by rw [fA.2.1 50 (by omega)]; exact c3.1) (by decide) (by decide) (by decide)
  have fB : Fr 1 (1 + 14) S B := Fr_tr fA (Fr_wd y3 (by decide) (by decide))
  obtain ⟨C, z1, z2, z3, z4, z5⟩ := x_rc (r := 9) (s := 52) (n := k.notes.1) y2 rfl rfl (Ly_at y2 _ _ _ (by decide) (by decide) (by decide)) (Ly_at y2 _ _ _ (by decide) (by decide) (by decide)) rfl rfl rfl rfl (by rw [fB.2.1 52 (by omega)]; exact c4.1) (by decide) (by decide) (by decide)
  have fC : Fr 1 (1 + 14) S C := Fr_tr fB (Fr_wd z3 (by decide) (by decide))
  obtain ⟨D, u1, u2, u3, u4, u5⟩ := x_rc (r := 11) (s := 54) (n := k.marks.1) z2 rfl rfl (Ly_at z2 _ _ _ (by decide) (by decide) (by decide)) (Ly_at z2 _ _ _ (by decide) (by decide) (by decide)) rfl rfl rfl rfl (by rw [fC.2.1 54 (by omega)]; exact c5.1) (by decide) (by decide) (by decide)
  have fD : Fr 1 (1 + 14) S D := Fr_tr fC (Fr_wd u3 (by decide) (by decide))
  obtain ⟨E, w1, w2, w3, w4, w5⟩ := x_pc (r := 13) (s := 56) (n := k.past.1) u2 rfl rfl (Ly_at u2 _ _ _ (by decide) (by decide) (by decide)) (Ly_at u2 _ _ _ (by decide) (by decide) (by decide)) rfl rfl rfl rfl (by rw [fD.2.1 56 (by omega)]; exact c6.1) (by decide) (by decide) (by decide)
  have fE : Fr 1 (1 + 14) S E := Fr_tr fD (Fr_wd w3 (by decide) (by decide))
  have e5 : E.2.1 44 5 = nI k.fold := by rw [fE.2.1 44 (by omega)]; exact c1
  refine ⟨mPut E 1 5 (nI k.fold), ?_, Ly_put w2 (by decide), ⟨by rw [mPut_g, if_pos ⟨rfl, rfl⟩], ?_, ?_, ?_, ?_, ?_⟩, Fr_tr fE (Fr_put (by decide) (by decide))⟩
  · simp (maxDischargeDepth := 40) only [f_X5_copy, hL, gc_0, gc_1, gc_2, gc_3, gc_4, gc_5, Ly_put, kcf, kca, x1, x2, y1, y2, z1, z2, u1, u2, w1, w2, e5, mCp_e, mC_e, mCv_e, mZ_0, mZ_1, mZ_ifb, if_true, if_false, n10, eq_self, reduceCtorEq, Bool.false_eq_true, Nat.add_zero, Nat.reduceAdd]
  · exact RH_sa (fun q p1 p2 => by rw [mPut_r _ _ _ _ _ (by omega), w3.2.1 q (by omega), u3.2.1 q (by omega), z3.2.1 q (by omega), y3.2.1 q (by omega)]) x3
  · refine RR_cp c3 (by decide) (by have := v.2.2.2.1.1; omega) ?_ (fun i hi => ?_)
    · rw [mPut_r _ _ _ _ _ (by decide), w3.2.1 7 (by omega), u3.2.1 7 (by omega), z3.2.1 7 (by omega)]
      exact y4
    · rw [mPut_r _ _ _ _ _ (by decide), w3.2.1 8 (by omega), u3.2.1 8 (by omega), z3.2.1 8 (by omega)]
      exact (y5 i hi).trans (by rw [fA.2.1 51 (by omega)])
  · refine RR_cp c4 (by decide) v.2.2.2.2.1.1 ?_ (fun i hi => ?_)
    · rw [mPut_r _ _ _ _ _ (by decide), w3.2.1 9 (by omega), u3.2.1 9 (by omega)]
      exact z4
    · rw [mPut_r _ _ _ _ _ (by decide), w3.2.1 10 (by omega), u3.2.1 10 (by omega)]
      exact (z5 i hi).trans (by rw [fB.2.1 53 (by omega)])
  · refine RR_cp c5 (by decide) v.2.2.2.2.2.1.1 ?_ (fun i hi => ?_)
    · rw [mPut_r _ _ _ _ _ (by decide), w3.2.1 11 (by omega)]
      exact u4
    · rw [mPut_r _ _ _ _ _ (by decide), w3.2.1 12 (by omega)]
      exact (u5 i hi).trans (by rw [fC.2.1 55 (by omega)])
  · refine RP_cp c6 v.1.1 v.1.2.1 v.2.2.2.2.2.2.1 ?_ (fun i hi => ?_)
    · rw [mPut_r _ _ _ _ _ (by decide)]
      exact w4
    · rw [mPut_r _ _ _ _ _ (by decide)]
      exact (w5 i hi).trans (by rw [fD.2.1 57 (by omega)])
theorem x_sc_1_15 {S : mS} {k : KS} (hL : Ly S) (v : VK k) (ck : CK S 15 k) : ∃ S1, f_X5_copy (nI 1) (nI 15) S = some S1 ∧ Ly S1 ∧ CK S1 1 k ∧ Fr 1 (1 + 14) S S1 := by
  obtain ⟨c1, c2, c3, c4, c5, c6⟩ := ck
  obtain ⟨A, x1, x2, x3, x4⟩ := x_copy (o := 2) (q := 16) (Or.inl rfl) (Or.inr (Or.inl rfl)) (by decide) hL c2 v.1.1 v.1.2.1
  have fA : Fr 1 (1 + 14) S A := Fr_wd x4 (by decide) (by decide)
  obtain ⟨B, y1, y2, y3, y4, y5⟩ := x_rc (r := 7) (s := 21) (n := k.seen.1) x2 rfl rfl (Ly_at x2 _ _ _ (by decide) (by decide) (by decide)) (Ly_at x2 _ _ _ (by decide) (by decide) (by decide)) rfl rfl rfl rfl (by rw [fA.2.1 21 (by omega)]; exact c3.1) (by decide) (by decide) (by decide)
  have fB : Fr 1 (1 + 14) S B := Fr_tr fA (Fr_wd y3 (by decide) (by decide))
  obtain ⟨C, z1, z2, z3, z4, z5⟩ := x_rc (r := 9) (s := 23) (n := k.notes.1) y2 rfl rfl (Ly_at y2 _ _ _ (by decide) (by decide) (by decide)) (Ly_at y2 _ _ _ (by decide) (by decide) (by decide)) rfl rfl rfl rfl (by rw [fB.2.1 23 (by omega)]; exact c4.1) (by decide) (by decide) (by decide)
  have fC : Fr 1 (1 + 14) S C := Fr_tr fB (Fr_wd z3 (by decide) (by decide))
  obtain ⟨D, u1, u2, u3, u4, u5⟩ := x_rc (r := 11) (s := 25) (n := k.marks.1) z2 rfl rfl (Ly_at z2 _ _ _ (by decide) (by decide) (by decide)) (Ly_at z2 _ _ _ (by decide) (by decide) (by decide)) rfl rfl rfl rfl (by rw [fC.2.1 25 (by omega)]; exact c5.1) (by decide) (by decide) (by decide)
  have fD : Fr 1 (1 + 14) S D := Fr_tr fC (Fr_wd u3 (by decide) (by decide))
  obtain ⟨E, w1, w2, w3, w4, w5⟩ := x_pc (r := 13) (s := 27) (n := k.past.1) u2 rfl rfl (Ly_at u2 _ _ _ (by decide) (by decide) (by decide)) (Ly_at u2 _ _ _ (by decide) (by decide) (by decide)) rfl rfl rfl rfl (by rw [fD.2.1 27 (by omega)]; exact c6.1) (by decide) (by decide) (by decide)
  have fE : Fr 1 (1 + 14) S E := Fr_tr fD (Fr_wd w3 (by decide) (by decide))
  have e5 : E.2.1 15 5 = nI k.fold := by rw [fE.2.1 15 (by omega)]; exact c1
  refine ⟨mPut E 1 5 (nI k.fold), ?_, Ly_put w2 (by decide), ⟨by rw [mPut_g, if_pos ⟨rfl, rfl⟩], ?_, ?_, ?_, ?_, ?_⟩, Fr_tr fE (Fr_put (by decide) (by decide))⟩
  · simp (maxDischargeDepth := 40) only [f_X5_copy, hL, gc_0, gc_1, gc_2, gc_3, gc_4, gc_5, Ly_put, kcf, kca, x1, x2, y1, y2, z1, z2, u1, u2, w1, w2, e5, mCp_e, mC_e, mCv_e, mZ_0, mZ_1, mZ_ifb, if_true, if_false, n10, eq_self, reduceCtorEq, Bool.false_eq_true, Nat.add_zero, Nat.reduceAdd]
  · exact RH_sa (fun q p1 p2 => by rw [mPut_r _ _ _ _ _ (by omega), w3.2.1 q (by omega), u3.2.1 q (by omega), z3.2.1 q (by omega), y3.2.1 q (by omega)]) x3
  · refine RR_cp c3 (by decide) (by have := v.2.2.2.1.1; omega) ?_ (fun i hi => ?_)
    · rw [mPut_r _ _ _ _ _ (by decide), w3.2.1 7 (by omega), u3.2.1 7 (by omega), z3.2.1 7 (by omega)]
      exact y4
    · rw [mPut_r _ _ _ _ _ (by decide), w3.2.1 8 (by omega), u3.2.1 8 (by omega), z3.2.1 8 (by omega)]
      exact (y5 i hi).trans (by rw [fA.2.1 22 (by omega)])
  · refine RR_cp c4 (by decide) v.2.2.2.2.1.1 ?_ (fun i hi => ?_)
    · rw [mPut_r _ _ _ _ _ (by decide), w3.2.1 9 (by omega), u3.2.1 9 (by omega)]
      exact z4
    · rw [mPut_r _ _ _ _ _ (by decide), w3.2.1 10 (by omega), u3.2.1 10 (by omega)]
      exact (z5 i hi).trans (by rw [fB.2.1 24 (by omega)])
  · refine RR_cp c5 (by decide) v.2.2.2.2.2.1.1 ?_ (fun i hi => ?_)
    · rw [mPut_r _ _ _ _ _ (by decide), w3.2.1 11 (by omega)]
      exact u4
    · rw [mPut_r _ _ _ _ _ (by decide), w3.2.1 12 (by omega)]
      exact (u5 i hi).trans (by rw [fC.2.1 26 (by omega)])
  · refine RP_cp c6 v.1.1 v.1.2.1 v.2.2.2.2.2.2.1 ?_ (fun i hi => ?_)
    · rw [mPut_r _ _ _ _ _ (by decide)]
      exact w4
    · rw [mPut_r _ _ _ _ _ (by decide)]
      exact (w5 i hi).trans (by rw [fD.2.1 28 (by omega)])
