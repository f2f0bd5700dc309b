/-! winters -/
theorem lN_t {n : Nat} (h : n < 9223372036854775808) : (lN n).toInt = n := Int64.toInt_ofNat_of_lt h
theorem lN_dv {a b : Nat} (ha : a < 9223372036854775808) (hb : b < 9223372036854775808) : lN a / lN b = lN (a / b) := by
  have hd := Nat.div_le_self a b
  rw [← Int64.toInt_inj, Int64.toInt_div, lN_t ha, lN_t hb, lN_t (by omega), ← Int.ofNat_tdiv]
  generalize a / b = q at hd ⊢
  apply Int.bmod_eq_of_le <;> omega
theorem lN_rm {a b : Nat} (ha : a < 9223372036854775808) (hb : b < 9223372036854775808) : mRemL (lN a) (lN b) = lN (a % b) := by
  unfold mRemL
  rw [lN_dv ha hb, lN_mul, lN_sub (Nat.div_mul_le_self a b)]
  congr 1
  have := Nat.div_add_mod a b
  rw [Nat.mul_comm] at this
  omega
def sd (x : Nat) : Nat := (x * 1103515245 + 12345) % 2147483648
theorem sd_lt (x : Nat) : sd x < 2147483648 := Nat.mod_lt _ (by decide)
theorem sd_e {x : Nat} (h : x < 2147483648) : mRemL ((lN x * 1103515245) + 12345) 2147483648 = lN (sd x) := by
  rw [show lN x * 1103515245 = lN (x * 1103515245) from lN_mul x 1103515245, show lN (x * 1103515245) + 12345 = lN (x * 1103515245 + 12345) from lN_add _ 12345]
  exact lN_rm (b := 2147483648) (by omega) (by decide)
theorem sd_i {x : Nat} (h : x < 2147483648) : (mRemL (lN x / 65536) 3).toInt32 = nI (x / 65536 % 3) := by
  rw [show lN x / 65536 = lN (x / 65536) from lN_dv (b := 65536) (by omega) (by decide), show mRemL (lN (x / 65536)) 3 = lN (x / 65536 % 3) from lN_rm (b := 3) (by omega) (by decide), lN_i]
theorem sd_d {x : Nat} (h : x < 2147483648) : (mRemL (lN x / 1048576) 5).toInt32 = nI (x / 1048576 % 5) := by
  rw [show lN x / 1048576 = lN (x / 1048576) from lN_dv (b := 1048576) (by omega) (by decide), show mRemL (lN (x / 1048576)) 5 = lN (x / 1048576 % 5) from lN_rm (b := 5) (by omega) (by decide), lN_i]
def wX (x : Nat) : Nat → Nat
  | 0 => x
  | n + 1 => sd (wX x n)
def wS (h : HS) (x : Nat) : HS := if x / 65536 % 3 < h.w then hC h (x / 65536 % 3) (x / 1048576 % 5) else setT h (h.t + 1)
def wH (h : HS) (x : Nat) : Nat → HS
  | 0 => h
  | n + 1 => wS (wH h x n) (sd (wX x n))
theorem wX_lt {x n : Nat} (h : x < 2147483648) : wX x n < 2147483648 := by
  cases n with
  | zero => exact h
  | succ n => exact sd_lt _
theorem wH_v {h : HS} {x n : Nat} (hv : VH h) (ht : h.t ≤ 9999) (hn : n ≤ 60) : VH (wH h x n) ∧ (wH h x n).w = h.w ∧ (wH h x n).f = h.f ∧ (wH h x n).t = h.t + n := by
  induction n with
  | zero => exact ⟨hv, rfl, rfl, rfl⟩
  | succ n ih =>
    obtain ⟨i1, i2, i3, i4⟩ := ih (by omega)
    show VH (wS (wH h x n) (sd (wX x n))) ∧ (wS (wH h x n) (sd (wX x n))).w = h.w ∧ (wS (wH h x n) (sd (wX x n))).f = h.f ∧ (wS (wH h x n) (sd (wX x n))).t = h.t + (n + 1)
    unfold wS
    by_cases c : sd (wX x n) / 65536 % 3 < (wH h x n).w
    · rw [if_pos c]
      refine ⟨VH_C i1 (by omega) c (by omega), i2, i3, ?_⟩
      show (wH h x n).t + 1 = _
      omega
    · rw [if_neg c]
      refine ⟨⟨i1.1, i1.2.1, ?_, i1.2.2.2.1, i1.2.2.2.2⟩, i2, i3, ?_⟩
      · show (wH h x n).t + 1 ≤ 20000
        omega
      · show (wH h x n).t + 1 = _
        omega
theorem dN_lt {N i : Nat} (hN : N < 2147483648) (hi : i < 2147483648) : dN N (nI i) = decide (i < N) := by
  by_cases h : i < N
  · rw [dN_nI h hN, decide_eq_true h]
  · rw [decide_eq_false h]
    cases c : dN N (nI i) with
    | false => rfl
    | true =>
      obtain ⟨j, hj, e⟩ := dN_some c hN
      rw [nI_eq (by omega) (by omega)] at e
      omega
theorem x_win {S : mS} {k : KS} {x n : Nat} (hL : Ly S) (v : VK k) (ck : CK S 1 k) (hr : RH S 65 k.h) (hx : x < 2147483648) (hn : n ≤ 60) : ∃ S1, f_X6_winters_48 f_X6_winters_138 1000 (nI 0) (nI n) (lN x) 0 S = some (nI (cnt (inC (wH k.h x n) k.fold) k.h.f), S1) ∧ Ly S1 ∧ Fr 65 70 S S1 := by
  obtain ⟨m, S2, ⟨p2, p3, p4⟩, e⟩ := lupI (fun q j (s : mS) => f_X6_winters_48 f_X6_winters_138 q (nI 0) (nI n) (lN (wX x j)) (nI j) s) (fun j (s : mS) => Ly s ∧ Fr 65 70 S s ∧ RH s 65 (wH k.h x j)) n (by
    rintro q j T hj ⟨q2, q3, q4⟩
    have le : (nI n ≤ nI j) = False := eq_false (nI_ge hj (by omega))
    obtain ⟨w1, w2, w3, w4⟩ := wH_v (x := x) (n := j) v.1 v.2.1 (by omega)
    have xl := wX_lt (n := j) hx
    have sl := sd_lt (wX x j)
    have i3 : sd (wX x j) / 65536 % 3 < 3 := by omega
    have d5 : sd (wX x j) / 1048576 % 5 < 5 := by omega
    have hw := x_hasW (nI (sd (wX x j) / 65536 % 3)) h65 q2 q4 (by have := w1.1; omega)
    rw [dN_lt (by have := w1.1; omega) (by omega)] at hw
    by_cases c : sd (wX x j) / 65536 % 3 < (wH k.h x j).w
    · have c' : decide (sd (wX x j) / 65536 % 3 < (wH k.h x j).w) = true := decide_eq_true c
      obtain ⟨A, a1, a2, a3, a4⟩ := x_call h65 q2 q4 w1 c d5
      refine ⟨A, ⟨a2, Fr_tr q3 a4, ?_⟩, ?_⟩
      · show RH A 65 (wS (wH k.h x j) (sd (wX x j)))
        unfold wS
        rw [if_pos c]
        exact a3
      · show f_X6_winters_48 f_X6_winters_138 (q + 1) _ _ _ _ T = f_X6_winters_48 f_X6_winters_138 q (nI 0) (nI n) (lN (sd (wX x j))) _ _
        rw [f_X6_winters_48_s]
        simp (maxDischargeDepth := 40) only [le, q2, gc_0, gc_1, gc_2, gc_3, gc_4, gc_5, Ly_put, kcf, kca, sd_e xl, sd_i sl, sd_d sl, hw, c', a1, f_X6_winters_132, nI_1, mCp_e, mC_e, mCv_e, mZ_0, mZ_1, mZ_ifb, if_true, if_false, n10, eq_self, reduceCtorEq, Bool.false_eq_true, Nat.add_zero, Nat.reduceAdd]
    · have c' : decide (sd (wX x j) / 65536 % 3 < (wH k.h x j).w) = false := decide_eq_false c
      have h6 : T.2.1 65 6 = nI (wH k.h x j).t := q4.2.2.1
      refine ⟨mPut T 65 6 (nI ((wH k.h x j).t + 1)), ⟨Ly_put q2 (by decide), Fr_tr q3 (Fr_put (by decide) (by decide)), ?_⟩, ?_⟩
      · show RH _ 65 (wS (wH k.h x j) (sd (wX x j)))
        unfold wS
        rw [if_neg c]
        exact RH_T q4
      · show f_X6_winters_48 f_X6_winters_138 (q + 1) _ _ _ _ T = f_X6_winters_48 f_X6_winters_138 q (nI 0) (nI n) (lN (sd (wX x j))) _ _
        rw [f_X6_winters_48_s]
        simp (maxDischargeDepth := 40) only [le, q2, gc_0, gc_1, gc_2, gc_3, gc_4, gc_5, Ly_put, kcf, kca, sd_e xl, sd_i sl, sd_d sl, hw, c', h6, f_X6_winters_132, nI_1, mCp_e, mC_e, mCv_e, mZ_0, mZ_1, mZ_ifb, if_true, if_false, n10, eq_self, reduceCtorEq, Bool.false_eq_true, Nat.add_zero, Nat.reduceAdd]) 1000 S ⟨hL, Fr_rf, hr⟩ (by omega)
  obtain ⟨w1, w2, w3, w4⟩ := wH_v (x := x) (n := n) v.1 v.2.1 hn
  have hF : S2.2.1 1 5 = nI k.fold := by rw [p3.2.1 1 (by omega)]; exact ck.1
  have mi := x_mIn h65 p2 p4 w1 v.2.2.1
  rw [w3] at mi
  refine ⟨S2, ?_, p2, p3⟩
  refine Eq.trans e ?_
  rw [f_X6_winters_48_s]
  simp (maxDischargeDepth := 40) only [ng_i, f_X6_winters_138, p2, gc_0, gc_1, gc_2, gc_3, gc_4, gc_5, Ly_put, kcf, kca, hF, mi, mCp_e, mC_e, mCv_e, mZ_0, mZ_1, mZ_ifb, if_true, if_false, n10, eq_self, reduceCtorEq, Bool.false_eq_true, Nat.add_zero, Nat.reduceAdd]
theorem y_win {S : mS} {k : KS} {x n : Nat} (hL : Ly S) (v : VK k) (mk : MK S k) (hx : x < 2147483648) (hn : n ≤ 60) : ∃ S1, (mCv (f_X7_lays (nI 83) (nI 95) 0 S) (fun S7 => (f_X7_winters_41 (f_X7_winters_118) 1000) (nI 83) (nI n) (lN x) 0 S7)) = some (nI (cnt (inC (wH k.h x n) k.fold) k.h.f), S1) ∧ Ly S1 ∧ RM S1 k.h ∧ FA S S1 := by
  obtain ⟨S1, l1, l2, l3, l4, ⟨l5, l6, l7⟩, l8⟩ := lay0 (a := 0) hL (by decide)
  have r1 : RM S1 k.h := by rw [l4]; exact mk.2.1
  obtain ⟨m, S2, ⟨p2, p3, p4⟩, e⟩ := lupI (fun q j (s : mS) => f_X7_winters_41 f_X7_winters_118 q (nI 83) (nI n) (lN (wX x j)) (nI j) s) (fun j (s : mS) => Ly s ∧ FM S1 s ∧ RM s (wH k.h x j)) n (by
    rintro q j T hj ⟨q2, q3, q4⟩
    have le : (nI n ≤ nI j) = False := eq_false (nI_ge hj (by omega))
    obtain ⟨w1, w2, w3, w4⟩ := wH_v (x := x) (n := j) v.1 v.2.1 (by omega)
    have xl := wX_lt (n := j) hx
    have sl := sd_lt (wX x j)
    have d5 : sd (wX x j) / 1048576 % 5 < 5 := by omega
    have hw := y_hasW (nI (sd (wX x j) / 65536 % 3)) q2 q4 (by have := w1.1; omega)
    rw [dN_lt (by have := w1.1; omega) (by omega)] at hw
    by_cases c : sd (wX x j) / 65536 % 3 < (wH k.h x j).w
    · have c' : decide (sd (wX x j) / 65536 % 3 < (wH k.h x j).w) = true := decide_eq_true c
      obtain ⟨A, a1, a2, a3, a4⟩ := y_comes q2 q4 w1 c d5
      refine ⟨A, ⟨a2, FM_tr q3 a4, ?_⟩, ?_⟩
      · show RM A (wS (wH k.h x j) (sd (wX x j)))
        unfold wS
        rw [if_pos c]
        exact a3
      · show f_X7_winters_41 f_X7_winters_118 (q + 1) _ _ _ _ T = f_X7_winters_41 f_X7_winters_118 q (nI 83) (nI n) (lN (sd (wX x j))) _ _
        rw [f_X7_winters_41_s]
        simp (maxDischargeDepth := 40) only [le, q2, gc_0, gc_1, gc_2, gc_3, gc_4, gc_5, Ly_put, kcf, kca, sd_e xl, sd_i sl, sd_d sl, hw, c', a1, f_X7_winters_112, nI_1, mCp_e, mC_e, mCv_e, mZ_0, mZ_1, mZ_ifb, if_true, if_false, n10, eq_self, reduceCtorEq, Bool.false_eq_true, Nat.add_zero, Nat.reduceAdd]
    · have c' : decide (sd (wX x j) / 65536 % 3 < (wH k.h x j).w) = false := decide_eq_false c
      have h6 : T.2.1 83 4 = nI (wH k.h x j).t := q4.2.2.1
      refine ⟨mPut T 83 4 (nI ((wH k.h x j).t + 1)), ⟨Ly_put q2 (by decide), FM_tr q3 (FM_put (by omega)), ?_⟩, ?_⟩
      · show RM _ (wS (wH k.h x j) (sd (wX x j)))
        unfold wS
        rw [if_neg c]
        exact RM_T q4
      · show f_X7_winters_41 f_X7_winters_118 (q + 1) _ _ _ _ T = f_X7_winters_41 f_X7_winters_118 q (nI 83) (nI n) (lN (sd (wX x j))) _ _
        rw [f_X7_winters_41_s]
        simp (maxDischargeDepth := 40) only [le, q2, gc_0, gc_1, gc_2, gc_3, gc_4, gc_5, Ly_put, kcf, kca, sd_e xl, sd_i sl, sd_d sl, hw, c', h6, f_X7_winters_112, nI_1, mCp_e, mC_e, mCv_e, mZ_0, mZ_1, mZ_ifb, if_true, if_false, n10, eq_self, reduceCtorEq, Bool.false_eq_true, Nat.add_zero, Nat.reduceAdd]) 1000 S1 ⟨l2, FM_rf, r1⟩ (by omega)
  obtain ⟨w1, w2, w3, w4⟩ := wH_v (x := x) (n := n) v.1 v.2.1 hn
  have hF : S2.2.1 83 3 = nI k.fold := by rw [p3.2.2.1 3 (by decide), l8]; exact mk.1
  have mi := y_fMany p2 p4 w1 hF v.2.2.1
  rw [w3] at mi
  have r95 : S2.2.1 95 = S1.2.1 95 := p3.2.1 95 (by decide) (by decide) (by decide)
  obtain ⟨S5, e1, e2, e3, e4⟩ := y_back (a := 0) p2 mk.2.1 v.1 (by decide) (FA_tr l3 (FA_fm p3)) (by rw [r95]; exact l5) (fun j hj => by rw [r95]; exact l6 j hj) (fun j hj => by rw [r95]; exact l7 j hj)
  have l1' : f_X7_lays (nI 83) (nI 95) 0 S = some S1 := l1
  have e1' : f_X7_takes (nI 83) (nI 95) 0 S2 = some S5 := e1
  refine ⟨S5, ?_, e2, e3, e4⟩
  simp (maxDischargeDepth := 40) only [l1', mCp_e, mC_e, mCv_e, mZ_0, mZ_1, mZ_ifb, if_true, if_false, n10, eq_self, reduceCtorEq, Bool.false_eq_true, Nat.add_zero, Nat.reduceAdd]
  refine Eq.trans e ?_
  rw [f_X7_winters_41_s]
  simp (maxDischargeDepth := 40) only [ng_i, f_X7_winters_118, p2, gc_0, gc_1, gc_2, gc_3, gc_4, gc_5, Ly_put, kcf, kca, mi, e1', mCp_e, mC_e, mCv_e, mZ_0, mZ_1, mZ_ifb, if_true, if_false, n10, eq_self, reduceCtorEq, Bool.false_eq_true, Nat.add_zero, Nat.reduceAdd]
theorem o_winters {S : mS} (H : Inv S) (v1 v2 : Int32) : Agr (f_X6_winters (nI 0) v1 v2) (f_X7_winters (nI 83) v1 v2) S := by
  obtain ⟨k, I⟩ := Inv_k H
  have hL := I.1
  have hv : VH k.h := I.2.1.1
  have hr : RH S 2 k.h := I.2.2.1.2.1
  have hm : MK S k := I.2.2.2.1
  have hq : RM S k.h := hm.2.1
  have ho : HO 2 := Or.inl rfl
  have hw := hv.1
  have hf := hv.2.1
  have w7 : k.h.w ≤ 7 := by omega
  cases c1 : dN 1000000 v1 with
  | false =>
    exact Agr_ref (v := -2) 0 (by decide) I (by simp (maxDischargeDepth := 40) only [f_X6_winters, f_X6_winters_21, hL, gc_0, gc_1, gc_2, gc_3, gc_4, gc_5, Ly_put, kcf, kca, x_hasW _ ho hL hr w7, x_hasS _ ho hL hr hf, x_cell, x_kind, x_iscall, x_isimage, i_in, c1, x_bad hL, mCp_e, mC_e, mCv_e, mZ_0, mZ_1, mZ_ifb, if_true, if_false, n10, eq_self, reduceCtorEq, Bool.false_eq_true, Nat.add_zero, Nat.reduceAdd]) (fun S1 hL1 hm1 => by simp (maxDischargeDepth := 40) only [f_X7_winters, f_X7_winters_21, hL1, gc_0, gc_1, gc_2, gc_3, gc_4, gc_5, Ly_put, kcf, kca, y_hasW _ hL1 hm1.2.1 w7, y_hasS _ hL1 hm1.2.1 hf, y_cell, y_iscall, i_in, c1, y_bad hL1, mCp_e, mC_e, mCv_e, mZ_0, mZ_1, mZ_ifb, if_true, if_false, n10, eq_self, reduceCtorEq, Bool.false_eq_true, Nat.add_zero, Nat.reduceAdd])
  | true =>
    cases c2 : dN 61 v2 with
    | false =>
      exact Agr_ref (v := -2) 0 (by decide) I (by simp (maxDischargeDepth := 40) only [f_X6_winters, f_X6_winters_21, hL, gc_0, gc_1, gc_2, gc_3, gc_4, gc_5, Ly_put, kcf, kca, x_hasW _ ho hL hr w7, x_hasS _ ho hL hr hf, x_cell, x_kind, x_iscall, x_isimage, i_in, c1, c2, x_bad hL, mCp_e, mC_e, mCv_e, mZ_0, mZ_1, mZ_ifb, if_true, if_false, n10, eq_self, reduceCtorEq, Bool.false_eq_true, Nat.add_zero, Nat.reduceAdd]) (fun S1 hL1 hm1 => by simp (maxDischargeDepth := 40) only [f_X7_winters, f_X7_winters_21, hL1, gc_0, gc_1, gc_2, gc_3, gc_4, gc_5, Ly_put, kcf, kca, y_hasW _ hL1 hm1.2.1 w7, y_hasS _ hL1 hm1.2.1 hf, y_cell, y_iscall, i_in, c1, c2, y_bad hL1, mCp_e, mC_e, mCv_e, mZ_0, mZ_1, mZ_ifb, if_true, if_false, n10, eq_self, reduceCtorEq, Bool.false_eq_true, Nat.add_zero, Nat.reduceAdd])
    | true =>
      obtain ⟨x, hx, rfl⟩ := dN_some c1 (by decide)
      obtain ⟨n, hn, rfl⟩ := dN_some c2 (by decide)
      have xe : (nI x).toInt64 = lN x := nI_l (by omega)
      obtain ⟨S1, a1, a2, a3, a4⟩ := x_copy h65 h2_ (by decide) hL hr hw hf
      obtain ⟨S2, x1, x2, x3⟩ := x_win (x := x) (n := n) a2 I.2.1 (CK_sa (a4.sa (by omega)) I.2.2.1) a3 (by omega) (by omega)
      refine Agr_k I I.2.1 (r := nI (cnt (inC (wH k.h x n) k.fold) k.h.f)) ⟨S2, by simp (maxDischargeDepth := 40) only [f_X6_winters, hL, gc_0, gc_1, gc_2, gc_3, gc_4, gc_5, Ly_put, kcf, kca, x_hasW _ ho hL hr w7, x_hasS _ ho hL hr hf, x_cell, x_kind, x_iscall, x_isimage, i_in, c1, c2, a1, xe, x1, mCp_e, mC_e, mCv_e, mZ_0, mZ_1, mZ_ifb, if_true, if_false, n10, eq_self, reduceCtorEq, Bool.false_eq_true, Nat.add_zero, Nat.reduceAdd], x2, CK_sa (x3.sa (by omega)) (CK_sa (a4.sa (by omega)) I.2.2.1), TC_tr (TC_fr a4 (by omega)) (TC_fr x3 (by omega))⟩ (fun S3 hL1 hm1 => ?_)
      obtain ⟨S4, y1, y2, y3, y4⟩ := y_win (x := x) (n := n) hL1 I.2.1 hm1 (by omega) (by omega)
      exact ⟨S4, by simp (maxDischargeDepth := 40) only [f_X7_winters, hL1, gc_0, gc_1, gc_2, gc_3, gc_4, gc_5, Ly_put, kcf, kca, y_hasW _ hL1 hm1.2.1 w7, y_hasS _ hL1 hm1.2.1 hf, y_cell, y_iscall, i_in, c1, c2, xe, mCp_e, mC_e, mCv_e, mZ_0, mZ_1, mZ_ifb, if_true, if_false, n10, eq_self, reduceCtorEq, Bool.false_eq_true, Nat.add_zero, Nat.reduceAdd]; exact y1, y2, MK_fa y4 hm1 y3, FA_TM y4⟩
