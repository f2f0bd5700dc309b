/-- the reference notes where all are -/
def FN (S S1 : mS) : Prop := S1.1 = S.1 ∧ (∀ q, q ≠ 83 → q ≠ 94 → S1.2.1 q = S.2.1 q) ∧ (∀ j, j ≠ 21 → S1.2.1 83 j = S.2.1 83 j) ∧ S1.2.2 = S.2.2
theorem FN_TM {S S1 : mS} (f : FN S S1) : TM S S1 := ⟨f.1, fun q hq => f.2.1 q (by omega) (by omega), f.2.2.1 16 (by decide), fun j _ => by rw [f.2.2.2]⟩
theorem FN_fr {S S1 : mS} (f : Fr 94 95 S S1) : FN S S1 := ⟨f.1, fun q h1 h2 => f.2.1 q (by omega), fun j _ => by rw [f.2.1 83 (by omega)], f.2.2⟩
theorem FN_tr {S S1 S2 : mS} (a : FN S S1) (b : FN S1 S2) : FN S S2 := ⟨b.1.trans a.1, fun k x y => (b.2.1 k x y).trans (a.2.1 k x y), fun j x => (b.2.2.1 j x).trans (a.2.2.1 j x), b.2.2.2.trans a.2.2.2⟩
theorem FN_put {S : mS} {v : Int32} : FN S (mPut S 83 21 v) := ⟨rfl, fun q h1 h2 => mPut_r _ _ _ _ _ h1, fun j hj => by rw [mPut_g, if_neg (by omega)], rfl⟩
theorem RM_fn {S S1 : mS} {h : HS} (f : FN S S1) (r : RM S h) : RM S1 h := by
  obtain ⟨a1, a2, a3, a4, a5⟩ := r
  exact ⟨(f.2.2.1 1 (by decide)).trans a1, (f.2.2.1 2 (by decide)).trans a2, (f.2.2.1 4 (by decide)).trans a3, fun i hi => by rw [f.2.1 85 (by decide) (by decide), f.2.1 86 (by decide) (by decide)]; exact a4 i hi, fun i hi => by rw [f.2.1 87 (by decide) (by decide), f.2.1 88 (by decide) (by decide)]; exact a5 i hi⟩
theorem y_no48 {S : mS} {h : HS} {p : RW} (hL : Ly S) (hr : RM S h) (hv : VH h) (hp : RP S 83 21 94 0 h.w h.f p) (hn : p.1 < 8) : ∃ S1, f_X7_notes_48 (nI 83) S = some S1 ∧ Ly S1 ∧ FN S S1 ∧ RP S1 83 21 94 0 h.w h.f (adP h p) := by
  have hw := hv.1
  have hf := hv.2.1
  have e1 : 11 * nI p.1 = nI (11 * p.1) := nI_mul 11 p.1
  obtain ⟨S1, l1, l2, l3, l4, l5, l6, l7⟩ := y_lays (a := 94) (at_ := 11 * p.1) hL rfl (by decide) (show 11 * p.1 + 11 ≤ 88 by omega)
  have e2 : S1.2.1 83 21 = nI p.1 := by rw [l3.2.1 83 (by omega)]; exact hp.1
  refine ⟨mPut S1 83 21 (nI (p.1 + 1)), by simp (maxDischargeDepth := 40) only [f_X7_notes_48, hL, gc_0, gc_1, gc_2, gc_3, gc_4, gc_5, Ly_put, kcf, kca, hp.1, e1, l1, l2, e2, nI_1, mCp_e, mC_e, mCv_e, mZ_0, mZ_1, mZ_ifb, if_true, if_false, n10, eq_self, reduceCtorEq, Bool.false_eq_true, Nat.add_zero, Nat.reduceAdd], Ly_put l2 (by decide), FN_tr (FN_fr l3) FN_put, ?_⟩
  refine RP_ad hp hw hf (by rw [mPut_g, if_pos ⟨rfl, rfl⟩]) (fun i hi => ?_) ?_ (fun i hi => ?_) (fun i hi => ?_)
  · rw [mPut_r _ _ _ _ _ (by decide)]
    exact l7 _ (by omega)
  · rw [mPut_r _ _ _ _ _ (by decide), Nat.zero_add, l4]
    exact hr.2.2.1
  · rw [mPut_r _ _ _ _ _ (by decide), Nat.zero_add, l5 i (by omega)]
    exact (hr.2.2.2.1 i hi).2
  · rw [mPut_r _ _ _ _ _ (by decide), Nat.zero_add, l6 i (by omega)]
    exact (hr.2.2.2.2 i hi).2
theorem y_notes {S : mS} {h : HS} {p : RW} (hL : Ly S) (hr : RM S h) (hv : VH h) (hp : RP S 83 21 94 0 h.w h.f p) (hn : p.1 ≤ 8) : ∃ S1, f_X7_notes (nI 83) S = some S1 ∧ Ly S1 ∧ FN S S1 ∧ RP S1 83 21 94 0 h.w h.f (adP h (shP p)) := by
  have eq : (nI p.1 = 8) = (p.1 = 8) := eq_i (b := 8) (by omega) (by decide)
  by_cases c : p.1 = 8
  · obtain ⟨m, S2, ⟨p1, p2, p3, p4⟩, e⟩ := lupI (fun n j (s : mS) => f_X7_notes_11 f_X7_notes_38 n (nI 83) (nI j) s) (fun j (s : mS) => Ly s ∧ Fr 94 95 S s ∧ (∀ i, i < j → s.2.1 94 i = S.2.1 94 (i + 11)) ∧ ∀ i, j ≤ i → s.2.1 94 i = S.2.1 94 i) 77 (by
      rintro n j s hj ⟨q1, q2, q3, q4⟩
      refine ⟨mPut s 94 j (S.2.1 94 (j + 11)), ⟨Ly_put q1 (cst_arr (Or.inl rfl)), Fr_tr q2 (Fr_put (by omega) (by omega)), fun i hi => ?_, fun i hi => by rw [mPut_g, if_neg (by omega)]; exact q4 i (by omega)⟩, ?_⟩
      · rw [mPut_g]
        by_cases h : i = j
        · rw [if_pos ⟨rfl, h⟩, h]
        · rw [if_neg (by omega)]
          exact q3 i (by omega)
      · show f_X7_notes_11 f_X7_notes_38 (n + 1) _ _ s = _
        have le : ((77 : Int32) ≤ nI j) = False := eq_false (nI_ge hj (by decide))
        have e11 : nI j + 11 = nI (j + 11) := nI_add j 11
        have b1 : j + 11 < 88 := by omega
        have b2 : j < 88 := by omega
        rw [f_X7_notes_11_s]
        simp (maxDischargeDepth := 40) only [le, q1, gc_0, gc_1, gc_2, gc_3, gc_4, gc_5, Ly_put, kcf, kca, hj, e11, b1, b2, nI_1, q4 (j + 11) (by omega), mCp_e, mC_e, mCv_e, mZ_0, mZ_1, mZ_ifb, if_true, if_false, n10, eq_self, reduceCtorEq, Bool.false_eq_true, Nat.add_zero, Nat.reduceAdd]) 1000 S ⟨hL, Fr_rf, fun i hi => absurd hi (Nat.not_lt_zero i), fun i hi => rfl⟩ (by decide)
    have e21 : S2.2.1 83 21 = nI 8 := by rw [p2.2.1 83 (by omega), hp.1, c]
    have fn : FN S (mPut S2 83 21 (nI 7)) := FN_tr (FN_fr p2) FN_put
    have hp2 : RP (mPut S2 83 21 (nI 7)) 83 21 94 0 h.w h.f (shP p) := RP_sh hp hv.1 hv.2.1 c (by rw [mPut_g, if_pos ⟨rfl, rfl⟩]) (fun i hi => by
      rw [mPut_r _ _ _ _ _ (by decide), Nat.zero_add, p3 i hi, Nat.zero_add, Nat.add_comm])
    have hL2 : Ly (mPut S2 83 21 (nI 7)) := Ly_put p1 (by decide)
    obtain ⟨S3, r1, r2, r3, r4⟩ := y_no48 hL2 (RM_fn fn hr) hv hp2 (shP_lt p)
    refine ⟨S3, ?_, r2, FN_tr fn r3, r4⟩
    simp (maxDischargeDepth := 40) only [f_X7_notes, hL, gc_0, gc_1, gc_2, gc_3, gc_4, gc_5, Ly_put, kcf, kca, hp.1, eq, eq_true c, mCp_e, mC_e, mCv_e, mZ_0, mZ_1, mZ_ifb, if_true, if_false, n10, eq_self, reduceCtorEq, Bool.false_eq_true, Nat.add_zero, Nat.reduceAdd]
    refine Eq.trans e ?_
    show f_X7_notes_11 f_X7_notes_38 (m + 1) (nI 83) (nI 77) S2 = _
    have le7 : ((77 : Int32) ≤ nI 77) = True := eq_true (ng_i (a := 77))
    have e87 : nI 8 - 1 = nI 7 := rfl
    rw [f_X7_notes_11_s]
    simp (maxDischargeDepth := 40) only [le7, f_X7_notes_38, p1, gc_0, gc_1, gc_2, gc_3, gc_4, gc_5, Ly_put, kcf, kca, e21, e87, r1, mCp_e, mC_e, mCv_e, mZ_0, mZ_1, mZ_ifb, if_true, if_false, n10, eq_self, reduceCtorEq, Bool.false_eq_true, Nat.add_zero, Nat.reduceAdd]
  · obtain ⟨S1, e, a1, a2, a3⟩ := y_no48 hL hr hv hp (by omega)
    refine ⟨S1, by simp (maxDischargeDepth := 40) only [f_X7_notes, hL, gc_0, gc_1, gc_2, gc_3, gc_4, gc_5, Ly_put, kcf, kca, hp.1, eq, c, e, mCp_e, mC_e, mCv_e, mZ_0, mZ_1, mZ_ifb, if_true, if_false, n10, eq_self, reduceCtorEq, Bool.false_eq_true, Nat.add_zero, Nat.reduceAdd], a1, a2, ?_⟩
    unfold shP
    rw [if_pos (by omega)]
    exact a3
/-- the State with a past anew -/
theorem CK_p {S S1 : mS} {k : KS} {p : RW} (f : Fr 13 15 S S1) (c : CK S 1 k) (hp : RP S1 13 1 14 0 k.h.w k.h.f p) : CK S1 1 (setP k p) := by
  obtain ⟨c1, c2, c3, c4, c5, c6⟩ := c
  exact ⟨by rw [f.2.1 1 (by omega)]; exact c1, RH_sa (f.sa (by omega)) c2, RR_sa (f.2.1 _ (by omega)) (f.2.1 _ (by omega)) c3, RR_sa (f.2.1 _ (by omega)) (f.2.1 _ (by omega)) c4, RR_sa (f.2.1 _ (by omega)) (f.2.1 _ (by omega)) c5, hp⟩
theorem MK_p {S S1 : mS} {k : KS} {p : RW} (f : FN S S1) (c : MK S k) (hp : RP S1 83 21 94 0 k.h.w k.h.f p) : MK S1 (setP k p) := by
  obtain ⟨c1, c2, c3, c4, c5, c6⟩ := c
  exact ⟨(f.2.2.1 3 (by decide)).trans c1, RM_fn f c2, RR_f (f.2.2.1 _ (by decide)) (f.2.1 _ (by decide) (by decide)) c3, RR_f (f.2.2.1 _ (by decide)) (f.2.1 _ (by decide) (by decide)) c4, RR_f (f.2.2.1 _ (by decide)) (f.2.1 _ (by decide) (by decide)) c5, hp⟩
theorem o_calls {S : mS} (H : Inv S) (v1 v2 : Int32) : Agr (f_X6_calls (nI 0) v1 v2) (f_X7_calls (nI 83) v1 v2) S := by
  obtain ⟨k, I⟩ := Inv_k H
  have hL := I.1
  have hv : VH k.h := I.2.1.1
  have hr : RH S 2 k.h := I.2.2.1.2.1
  have hm : MK S k := I.2.2.2.1
  have hq : RM S k.h := hm.2.1
  have ho : HO 2 := Or.inl rfl
  have hw := hv.1
  have hf := hv.2.1
  have w7 : k.h.w ≤ 7 := by omega
  have ht : k.h.t ≤ 9999 := I.2.1.2.1
  have q1 : (nI k.h.t < 9999) = (k.h.t < 9999) := lt_i (b := 9999) (by omega) (by decide)
  have q2 : (nI k.h.t = 9999) = (k.h.t = 9999) := eq_i (b := 9999) (by omega) (by decide)
  cases c1 : dN k.h.w v1 with
  | false =>
    exact Agr_ref (v := -2) 0 (by decide) I (by simp (maxDischargeDepth := 40) only [f_X6_calls, f_X6_calls_21, hL, gc_0, gc_1, gc_2, gc_3, gc_4, gc_5, Ly_put, kcf, kca, x_hasW _ ho hL hr w7, x_hasS _ ho hL hr hf, x_cell, x_kind, x_iscall, x_isimage, i_in, c1, x_bad hL, mCp_e, mC_e, mCv_e, mZ_0, mZ_1, mZ_ifb, if_true, if_false, n10, eq_self, reduceCtorEq, Bool.false_eq_true, Nat.add_zero, Nat.reduceAdd]) (fun S1 hL1 hm1 => by simp (maxDischargeDepth := 40) only [f_X7_calls, f_X7_calls_15, hL1, gc_0, gc_1, gc_2, gc_3, gc_4, gc_5, Ly_put, kcf, kca, y_hasW _ hL1 hm1.2.1 w7, y_hasS _ hL1 hm1.2.1 hf, y_cell, y_iscall, i_in, c1, y_bad hL1, mCp_e, mC_e, mCv_e, mZ_0, mZ_1, mZ_ifb, if_true, if_false, n10, eq_self, reduceCtorEq, Bool.false_eq_true, Nat.add_zero, Nat.reduceAdd])
  | true =>
    cases c2 : dN 5 v2 with
    | false =>
      exact Agr_ref (v := -2) 0 (by decide) I (by simp (maxDischargeDepth := 40) only [f_X6_calls, f_X6_calls_21, hL, gc_0, gc_1, gc_2, gc_3, gc_4, gc_5, Ly_put, kcf, kca, x_hasW _ ho hL hr w7, x_hasS _ ho hL hr hf, x_cell, x_kind, x_iscall, x_isimage, i_in, c1, c2, x_bad hL, mCp_e, mC_e, mCv_e, mZ_0, mZ_1, mZ_ifb, if_true, if_false, n10, eq_self, reduceCtorEq, Bool.false_eq_true, Nat.add_zero, Nat.reduceAdd]) (fun S1 hL1 hm1 => by simp (maxDischargeDepth := 40) only [f_X7_calls, f_X7_calls_15, hL1, gc_0, gc_1, gc_2, gc_3, gc_4, gc_5, Ly_put, kcf, kca, y_hasW _ hL1 hm1.2.1 w7, y_hasS _ hL1 hm1.2.1 hf, y_cell, y_iscall, i_in, c1, c2, y_bad hL1, mCp_e, mC_e, mCv_e, mZ_0, mZ_1, mZ_ifb, if_true, if_false, n10, eq_self, reduceCtorEq, Bool.false_eq_true, Nat.add_zero, Nat.reduceAdd])
    | true =>
      obtain ⟨i, hi, rfl⟩ := dN_some c1 (by omega)
      obtain ⟨d, hd, rfl⟩ := dN_some c2 (by decide)
      by_cases c3 : k.h.t < 9999
      · have c4 : (k.h.t = 9999) = False := eq_false (by omega)
        have h8 := I.2.1.2.2.2.2.2.2.1
        obtain ⟨S1, x1, x2, x3, x4⟩ := x_push hL hr hv I.2.2.1.2.2.2.2.2 h8
        have hr1 : RH S1 2 k.h := RH_sa (x3.sa (by omega)) hr
        obtain ⟨S2, z1, z2, z3, z4⟩ := x_call ho x2 hr1 hv hi hd
        have vC := VH_C hv (by omega) hi hd
        refine Agr_k I (k' := setH (pushK k) (hC k.h i d)) (r := nI (nC k.h i d)) ⟨vC, by show k.h.t + 1 ≤ 9999; omega, I.2.1.2.2.1, I.2.1.2.2.2.1, I.2.1.2.2.2.2.1, I.2.1.2.2.2.2.2.1, (VK_push I.2.1).2.2.2.2.2.2⟩ ⟨S2, by simp (maxDischargeDepth := 40) only [f_X6_calls, hL, gc_0, gc_1, gc_2, gc_3, gc_4, gc_5, Ly_put, kcf, kca, x_hasW _ ho hL hr w7, x_hasS _ ho hL hr hf, x_cell, x_kind, x_iscall, x_isimage, i_in, c1, c2, hr.2.2.1, q1, c3, x1, x2, z1, mCp_e, mC_e, mCv_e, mZ_0, mZ_1, mZ_ifb, if_true, if_false, n10, eq_self, reduceCtorEq, Bool.false_eq_true, Nat.add_zero, Nat.reduceAdd], z2, CK_h z4 (CK_p x3 I.2.2.1 x4) z3 rfl rfl, TC_tr (TC_fr x3 (by omega)) (TC_fr z4 (by omega))⟩ (fun S3 hL1 hm1 => ?_)
        obtain ⟨S4, y1, y2, y3, y4⟩ := y_notes hL1 hm1.2.1 hv hm1.2.2.2.2.2 h8
        have hr2 : RM S4 k.h := RM_fn y3 hm1.2.1
        obtain ⟨S5, w1, w2, w3, w4⟩ := y_comes y2 hr2 hv hi hd
        exact ⟨S5, by simp (maxDischargeDepth := 40) only [f_X7_calls, hL1, gc_0, gc_1, gc_2, gc_3, gc_4, gc_5, Ly_put, kcf, kca, y_hasW _ hL1 hm1.2.1 w7, y_hasS _ hL1 hm1.2.1 hf, y_cell, y_iscall, i_in, c1, c2, hm1.2.1.2.2.1, q2, c4, y1, y2, w1, mCp_e, mC_e, mCv_e, mZ_0, mZ_1, mZ_ifb, if_true, if_false, n10, eq_self, reduceCtorEq, Bool.false_eq_true, Nat.add_zero, Nat.reduceAdd], w2, MK_h w4 (MK_p y3 hm1 y4) w3 rfl rfl, TM_tr (FN_TM y3) (FM_TM w4)⟩
      · have c4 : (k.h.t = 9999) = True := eq_true (by omega)
        exact Agr_ref (v := -3) 1 (by decide) I (by simp (maxDischargeDepth := 40) only [f_X6_calls, hr.2.2.1, hL, gc_0, gc_1, gc_2, gc_3, gc_4, gc_5, Ly_put, kcf, kca, x_hasW _ ho hL hr w7, x_hasS _ ho hL hr hf, x_cell, x_kind, x_iscall, x_isimage, i_in, c1, c2, q1, q2, c3, x_no hL, mCp_e, mC_e, mCv_e, mZ_0, mZ_1, mZ_ifb, if_true, if_false, n10, eq_self, reduceCtorEq, Bool.false_eq_true, Nat.add_zero, Nat.reduceAdd]) (fun S1 hL1 hm1 => by simp (maxDischargeDepth := 40) only [f_X7_calls, hm1.2.1.2.2.1, c4, hL1, gc_0, gc_1, gc_2, gc_3, gc_4, gc_5, Ly_put, kcf, kca, y_hasW _ hL1 hm1.2.1 w7, y_hasS _ hL1 hm1.2.1 hf, y_cell, y_iscall, i_in, c1, c2, q1, q2, c3, y_no hL1, mCp_e, mC_e, mCv_e, mZ_0, mZ_1, mZ_ifb, if_true, if_false, n10, eq_self, reduceCtorEq, Bool.false_eq_true, Nat.add_zero, Nat.reduceAdd])
