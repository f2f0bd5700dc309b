/-! a herd copied -/
theorem HO_dj {o q : Nat} (h1 : HO o) (h2 : HO q) (h : o ≠ q) : o + 5 ≤ q ∨ q + 5 ≤ o := by
  unfold HO at h1 h2
  omega
theorem va_in {f g : Nat → Int32} {n j : Nat} (h : j < n) : va_cpy f g 0 0 n j = f j := by
  show (if 0 ≤ j ∧ j < 0 + n then f (0 + (j - 0)) else g j) = f j
  rw [if_pos (by omega), Nat.zero_add, Nat.sub_zero]
theorem x_copy {S : mS} {o q : Nat} {h : HS} (ho : HO o) (hq : HO q) (hne : o ≠ q) (hL : Ly S) (hr : RH S q h) (hw : h.w ≤ 3) (hf : h.f ≤ 7) : ∃ S1, f_X1_copy (nI o) (nI q) S = some S1 ∧ Ly S1 ∧ RH S1 o h ∧ Fr o (o + 5) S S1 := by
  have dj := HO_dj ho hq hne
  have ko := HO_k ho
  have kq := HO_k hq
  have cf := hcf ho
  have hL1 : Ly (mRow S (o + 1) (va_cpy (S.2.1 (q + 1)) (S.2.1 (o + 1)) 0 0 3)) := Ly_row hL cf.2.1
  generalize hT1 : mRow S (o + 1) (va_cpy (S.2.1 (q + 1)) (S.2.1 (o + 1)) 0 0 3) = T1 at hL1
  have hL2 : Ly (mRow T1 (o + 2) (va_cpy (T1.2.1 (q + 2)) (T1.2.1 (o + 2)) 0 0 3)) := Ly_row hL1 cf.2.2.1
  generalize hT2 : mRow T1 (o + 2) (va_cpy (T1.2.1 (q + 2)) (T1.2.1 (o + 2)) 0 0 3) = T2 at hL2
  have hL3 : Ly (mRow T2 (o + 3) (va_cpy (T2.2.1 (q + 3)) (T2.2.1 (o + 3)) 0 0 7)) := Ly_row hL2 cf.2.2.2.1
  generalize hT3 : mRow T2 (o + 3) (va_cpy (T2.2.1 (q + 3)) (T2.2.1 (o + 3)) 0 0 7) = T3 at hL3
  have hL4 : Ly (mRow T3 (o + 4) (va_cpy (T3.2.1 (q + 4)) (T3.2.1 (o + 4)) 0 0 7)) := Ly_row hL3 cf.2.2.2.2
  generalize hT4 : mRow T3 (o + 4) (va_cpy (T3.2.1 (q + 4)) (T3.2.1 (o + 4)) 0 0 7) = T4 at hL4
  have c1 : ∀ K : mS → Option mS, mCy (nI (q + 1)) 0 (nI (o + 1)) 0 3 S K = K T1 := fun K => by rw [← hT1]; exact cy_i (a := 0) (b := 0) (n := 3) hL kq.2.2.1.1 ko.2.2.1.1 (by rw [kq.2.2.2.1.1]; decide) (by rw [ko.2.2.2.1.1]; decide)
  have c2 : ∀ K : mS → Option mS, mCy (nI (q + 2)) 0 (nI (o + 2)) 0 3 T1 K = K T2 := fun K => by rw [← hT2]; exact cy_i (a := 0) (b := 0) (n := 3) hL1 kq.2.2.1.2.1 ko.2.2.1.2.1 (by rw [kq.2.2.2.1.2.1]; decide) (by rw [ko.2.2.2.1.2.1]; decide)
  have c3 : ∀ K : mS → Option mS, mCy (nI (q + 3)) 0 (nI (o + 3)) 0 7 T2 K = K T3 := fun K => by rw [← hT3]; exact cy_i (a := 0) (b := 0) (n := 7) hL2 kq.2.2.1.2.2.1 ko.2.2.1.2.2.1 (by rw [kq.2.2.2.1.2.2.1]; decide) (by rw [ko.2.2.2.1.2.2.1]; decide)
  have c4 : ∀ K : mS → Option mS, mCy (nI (q + 4)) 0 (nI (o + 4)) 0 7 T3 K = K T4 := fun K => by rw [← hT4]; exact cy_i (a := 0) (b := 0) (n := 7) hL3 kq.2.2.1.2.2.2 ko.2.2.1.2.2.2 (by rw [kq.2.2.2.1.2.2.2]; decide) (by rw [ko.2.2.2.1.2.2.2]; decide)
  have s1 : ∀ x, x ≠ o + 1 → T1.2.1 x = S.2.1 x := fun x hx => by rw [← hT1, mRow_r _ _ _ _ hx]
  have s2 : ∀ x, x ≠ o + 2 → T2.2.1 x = T1.2.1 x := fun x hx => by rw [← hT2, mRow_r _ _ _ _ hx]
  have s3 : ∀ x, x ≠ o + 3 → T3.2.1 x = T2.2.1 x := fun x hx => by rw [← hT3, mRow_r _ _ _ _ hx]
  have s4 : ∀ x, x ≠ o + 4 → T4.2.1 x = T3.2.1 x := fun x hx => by rw [← hT4, mRow_r _ _ _ _ hx]
  have fr4 : Fr o (o + 5) S T4 := ⟨by rw [← hT4, ← hT3, ← hT2, ← hT1]; rfl, fun x hx => by rw [s4 x (by omega), s3 x (by omega), s2 x (by omega), s1 x (by omega)], by rw [← hT4, ← hT3, ← hT2, ← hT1]; rfl⟩
  have g4 : T4.2.1 q 4 = nI h.w := by rw [fr4.2.1 q (by omega)]; exact hr.1
  have hL5 : Ly (mPut T4 o 4 (nI h.w)) := Ly_put hL4 cf.1.1
  have g5 : (mPut T4 o 4 (nI h.w)).2.1 q 5 = nI h.f := by rw [mPut_r _ _ _ _ _ (by omega), fr4.2.1 q (by omega)]; exact hr.2.1
  have hL6 : Ly (mPut (mPut T4 o 4 (nI h.w)) o 5 (nI h.f)) := Ly_put hL5 cf.1.2.1
  have g6 : (mPut (mPut T4 o 4 (nI h.w)) o 5 (nI h.f)).2.1 q 6 = nI h.t := by rw [mPut_r _ _ _ _ _ (by omega), mPut_r _ _ _ _ _ (by omega), fr4.2.1 q (by omega)]; exact hr.2.2.1
  refine ⟨mPut (mPut (mPut T4 o 4 (nI h.w)) o 5 (nI h.f)) o 6 (nI h.t), ?_, Ly_put hL6 cf.1.2.2, ⟨by rw [mPut_g, if_neg (by omega), mPut_g, if_neg (by omega), mPut_g, if_pos ⟨rfl, rfl⟩], by rw [mPut_g, if_neg (by omega), mPut_g, if_pos ⟨rfl, rfl⟩], by rw [mPut_g, if_pos ⟨rfl, rfl⟩], fun i hi => ?_, fun i hi => ?_⟩, Fr_tr (Fr_tr (Fr_tr fr4 (Fr_put (by omega) (by omega))) (Fr_put (by omega) (by omega))) (Fr_put (by omega) (by omega))⟩
  · simp (maxDischargeDepth := 40) only [f_X1_copy, hgs ho hL, hgs hq hL, c1, hgs ho hL1, hgs hq hL1, c2, hgs ho hL2, hgs hq hL2, c3, hgs ho hL3, hgs hq hL3, c4, hgs ho hL4, hgs hq hL4, g4, hgs ho hL5, hgs hq hL5, g5, hgs ho hL6, hgs hq hL6, g6, mCp_e, mC_e, mCv_e, mZ_0, mZ_1, mZ_ifb, if_true, if_false, n10, eq_self, reduceCtorEq, Bool.false_eq_true, Nat.add_zero, Nat.reduceAdd]
  · have i3 : i < 3 := by omega
    rw [mPut_r _ _ _ _ _ (by omega), mPut_r _ _ _ _ _ (by omega), mPut_r _ _ _ _ _ (by omega), mPut_r _ _ _ _ _ (by omega), mPut_r _ _ _ _ _ (by omega), mPut_r _ _ _ _ _ (by omega)]
    rw [s4 (o + 1) (by omega), s3 (o + 1) (by omega), s2 (o + 1) (by omega), s4 (o + 2) (by omega), s3 (o + 2) (by omega), ← hT2, mRow_g, if_pos rfl, va_in i3, s1 (q + 2) (by omega), ← hT1, mRow_g, if_pos rfl, va_in i3]
    exact hr.2.2.2.1 i hi
  · have i7 : i < 7 := by omega
    rw [mPut_r _ _ _ _ _ (by omega), mPut_r _ _ _ _ _ (by omega), mPut_r _ _ _ _ _ (by omega), mPut_r _ _ _ _ _ (by omega), mPut_r _ _ _ _ _ (by omega), mPut_r _ _ _ _ _ (by omega)]
    rw [s4 (o + 3) (by omega), ← hT4, mRow_g, if_pos rfl, va_in i7, s3 (q + 4) (by omega), s2 (q + 4) (by omega), s1 (q + 4) (by omega), ← hT3, mRow_g, if_pos rfl, va_in i7, s2 (q + 3) (by omega), s1 (q + 3) (by omega)]
    exact hr.2.2.2.2 i hi
/-! how far all are -/
def sm (g : Nat → Nat) : Nat → Nat
  | 0 => 0
  | n + 1 => sm g n + g n
theorem sm_s (g : Nat → Nat) (n : Nat) : sm g (n + 1) = sm g n + g n := rfl
theorem sm_le {g : Nat → Nat} {M n : Nat} (h : ∀ j, j < n → g j ≤ M) : sm g n ≤ M * n := by
  induction n with
  | zero => exact Nat.zero_le _
  | succ n ih =>
    rw [sm_s, Nat.mul_succ]
    exact Nat.add_le_add (ih (fun j hj => h j (by omega))) (h n (by omega))
theorem sm_eq {g f : Nat → Nat} {n : Nat} (h : ∀ j, j < n → g j = f j) : sm g n = sm f n := by
  induction n with
  | zero => rfl
  | succ n ih => rw [sm_s, sm_s, ih (fun j hj => h j (by omega)), h n (by omega)]
theorem x_farT {S : mS} {o c : Nat} {h : HS} (ho : HO o) (hL : Ly S) (hr : RH S o h) (hv : VH h) (hc : c < 25) : f_X1_farTogether (nI o) (nI c) S = some (nI (sm (fun s => pFar (h.sc s) c) h.f)) := by
  have hf := hv.2.1
  obtain ⟨m, e⟩ := lup (fun n j => f_X1_farTogether_4 (f_X1_farTogether_31 S) S n (nI o) (nI c) (nI (sm (fun s => pFar (h.sc s) c) j)) (nI j)) h.f (fun n j hj => by
    have j7 : j < 7 := by omega
    have le : (nI h.f ≤ nI j) = False := eq_false (nI_ge hj (by omega))
    show f_X1_farTogether_4 (f_X1_farTogether_31 S) S (n + 1) _ _ _ _ = _
    rw [f_X1_farTogether_4_s, sm_s]
    simp (maxDischargeDepth := 40) only [hgs ho hL, hr.2.1, le, j7, (hr.2.2.2.2 j hj).2, (x_far _ (hv.2.2.2.2 j hj).2 _ hc).1, nI_add, nI_1, mCp_e, mC_e, mCv_e, mZ_0, mZ_1, mZ_ifb, if_true, if_false, n10, eq_self, reduceCtorEq, Bool.false_eq_true, Nat.add_zero, Nat.reduceAdd]) 1000 (by omega)
  unfold f_X1_farTogether
  refine Eq.trans e ?_
  rw [f_X1_farTogether_4_s]
  simp (maxDischargeDepth := 40) only [hgs ho hL, hr.2.1, ng_i, f_X1_farTogether_31, mCp_e, mC_e, mCv_e, mZ_0, mZ_1, mZ_ifb, if_true, if_false, n10, eq_self, reduceCtorEq, Bool.false_eq_true, Nat.add_zero, Nat.reduceAdd]
def gN (k : KS) (i d : Nat) : Nat := sm (fun s => pFar (aG k.h s i d) k.fold) k.h.f
theorem gN_le {k : KS} {i d : Nat} (v : VK k) (hi : i < k.h.w) (hd : d < 5) : gN k i d ≤ 63 := by
  have h1 := sm_le (g := fun s => pFar (aG k.h s i d) k.fold) (M := 9) (n := k.h.f) (fun s hs => by
    have := (x_far _ (aG_lt v.1 hs hi hd) _ v.2.2.1).2.2
    show pFar (aG k.h s i d) k.fold ≤ 9
    omega)
  have := v.1.2.1
  unfold gN
  omega
theorem h65 : HO 65 := Or.inr (Or.inr (Or.inr (Or.inr (Or.inl rfl))))
theorem h70 : HO 70 := Or.inr (Or.inr (Or.inr (Or.inr (Or.inr (Or.inl rfl)))))
theorem h75 : HO 75 := Or.inr (Or.inr (Or.inr (Or.inr (Or.inr (Or.inr rfl)))))
theorem h2_ : HO 2 := Or.inl rfl
theorem x_near {S : mS} {k : KS} {i w : Nat} (hL : Ly S) (v : VK k) (ck : CK S 1 k) (hi : i < k.h.w) (hw : w < 2) : ∃ S1, f_X6_near_32 f_X6_near_87 1000 (nI 0) (nI i) (nI w) 0 S = some (if w = 0 then nI (flB (gN k i) 5) else nI (gN k i (flB (gN k i) 5)), S1) ∧ Ly S1 ∧ Fr 65 82 S S1 := by
  have hr : RH S 2 k.h := ck.2.1
  obtain ⟨m, S2, ⟨p2, p3, p4⟩, e⟩ := lupI (fun n j (s : mS) => f_X6_near_32 f_X6_near_87 n (nI 0) (nI i) (nI w) (nI j) s) (fun j (s : mS) => Ly s ∧ Fr 65 82 S s ∧ ∀ q, q < j → s.2.1 81 q = nI (gN k i q)) 5 (by
    rintro n j T hj ⟨q2, q3, q4⟩
    have le : ((5 : Int32) ≤ nI j) = False := eq_false (nI_ge hj (by decide))
    have j30 : j < 30 := by omega
    have hrT : RH T 2 k.h := RH_sa (q3.sa (by omega)) hr
    obtain ⟨T1, a1, a2, a3, a4⟩ := x_copy h65 h2_ (by decide) q2 hrT v.1.1 v.1.2.1
    obtain ⟨T2, b1, b2, b3, b4⟩ := x_call h65 a2 a3 v.1 hi hj
    have vC := VH_C v.1 (by have := v.2.1; omega) hi hj
    have hF : T2.2.1 1 5 = nI k.fold := by rw [b4.2.1 1 (by omega), a4.2.1 1 (by omega), q3.2.1 1 (by omega)]; exact ck.1
    refine ⟨mPut T2 81 j (nI (gN k i j)), ⟨Ly_put b2 (cst_arr (Or.inl rfl)), Fr_tr q3 (Fr_tr (Fr_wd a4 (by decide) (by decide)) (Fr_tr (Fr_wd b4 (by decide) (by decide)) (Fr_put (by decide) (by decide)))), fun q hq => ?_⟩, ?_⟩
    · rw [mPut_g]
      by_cases ij : q = j
      · rw [ij, if_pos ⟨rfl, rfl⟩]
      · rw [if_neg (by omega), b4.2.1 81 (by omega), a4.2.1 81 (by omega)]
        exact q4 q (by omega)
    · show f_X6_near_32 f_X6_near_87 (n + 1) _ _ _ _ T = _
      rw [f_X6_near_32_s]
      simp (maxDischargeDepth := 40) only [le, q2, gc_0, gc_1, gc_2, gc_3, gc_4, gc_5, Ly_put, kcf, kca, a1, a2, b1, b2, hF, x_farT h65 b2 b3 vC v.2.2.1, j30, nI_1, mCp_e, mC_e, mCv_e, mZ_0, mZ_1, mZ_ifb, if_true, if_false, n10, eq_self, reduceCtorEq, Bool.false_eq_true, Nat.add_zero, Nat.reduceAdd]
      rfl) 1000 S ⟨hL, Fr_rf, fun i hi => absurd hi (Nat.not_lt_zero i)⟩ (by omega)
  refine ⟨S2, ?_, p2, p3⟩
  refine Eq.trans e ?_
  have fl := x_firstL (S := S2) (g := gN k i) (N := 5) p2 (by decide) (by decide) (fun o ho => ⟨by have := gN_le v hi ho; omega, p4 o ho⟩)
  have le5 : ((5 : Int32) ≤ nI 5) = True := by decide
  have fb := flB_lt (g := gN k i) (show 0 < 5 by decide)
  have f30 : flB (gN k i) 5 < 30 := by omega
  have fl' : f_X6_firstLeast (nI 81) 5 S2 = some (nI (flB (gN k i) 5)) := fl
  rw [f_X6_near_32_s]
  rcases (show w = 0 ∨ w = 1 by omega) with rfl | rfl
  · simp (maxDischargeDepth := 40) only [le5, f_X6_near_87, f_X6_near_110, p2, gc_0, gc_1, gc_2, gc_3, gc_4, gc_5, Ly_put, kcf, kca, fl', litz, mCp_e, mC_e, mCv_e, mZ_0, mZ_1, mZ_ifb, if_true, if_false, n10, eq_self, reduceCtorEq, Bool.false_eq_true, Nat.add_zero, Nat.reduceAdd]
  · simp (maxDischargeDepth := 40) only [le5, f_X6_near_87, f_X6_near_110, p2, gc_0, gc_1, gc_2, gc_3, gc_4, gc_5, Ly_put, kcf, kca, fl', litz, f30, p4 _ fb, Nat.one_ne_zero, mCp_e, mC_e, mCv_e, mZ_0, mZ_1, mZ_ifb, if_true, if_false, n10, eq_self, reduceCtorEq, Bool.false_eq_true, Nat.add_zero, Nat.reduceAdd]
theorem y_near {S : mS} {k : KS} {i w : Nat} (hL : Ly S) (v : VK k) (mk : MK S k) (hi : i < k.h.w) (hw : w < 2) : f_X7_near_31 f_X7_near_108 1000 (nI 83) (nI i) (nI w) (-1) 1048576 0 S = some (if w = 0 then nI (flB (gN k i) 5) else nI (gN k i (flB (gN k i) 5)), S) := by
  have hf := v.1.2.1
  have hr : RM S k.h := mk.2.1
  have h5 : S.2.1 83 2 = nI k.h.f := hr.2.1
  obtain ⟨m, e⟩ := lup (fun n d => f_X7_near_31 f_X7_near_108 n (nI 83) (nI i) (nI w) (bB (gN k i) d) (nI (bL (gN k i) d)) (nI d) S) 5 (fun n d hd => by
    have le : ((5 : Int32) ≤ nI d) = False := eq_false (nI_ge hd (by decide))
    have b := bB_s (g := gN k i) (j := d) (by have := gN_le v hi hd; omega)
    have bl := bL_lt (g := gN k i) (j := d) (fun q hq => by have := gN_le v hi (show q < 5 by omega); omega)
    have gl := gN_le v hi hd
    have qe : (nI (bL (gN k i) d) ≤ nI (gN k i d)) = (bL (gN k i) d ≤ gN k i d) := le_i bl (by omega)
    show f_X7_near_31 f_X7_near_108 (n + 1) _ _ _ _ _ _ S = _
    rw [f_X7_near_31_s, b.1, b.2]
    simp (maxDischargeDepth := 40) only [le, mCp_e, mC_e, mCv_e, mZ_0, mZ_1, mZ_ifb, if_true, if_false, n10, eq_self, reduceCtorEq, Bool.false_eq_true, Nat.add_zero, Nat.reduceAdd]
    obtain ⟨m2, e2⟩ := lup (fun n2 s => f_X7_near_43 (f_X7_near_79 (f_X7_near_31 f_X7_near_108 n)) n2 (nI 83) (nI i) (nI w) (bB (gN k i) d) (nI (bL (gN k i) d)) (nI d) (nI (sm (fun s => pFar (aG k.h s i d) k.fold) s)) (nI s) S) k.h.f (fun n2 s hs => by
      have le2 : (nI k.h.f ≤ nI s) = False := eq_false (nI_ge hs (by omega))
      show f_X7_near_43 _ (n2 + 1) _ _ _ _ _ _ _ _ S = _
      rw [f_X7_near_43_s, sm_s]
      simp (maxDischargeDepth := 40) only [h5, le2, hL, gc_0, gc_1, gc_2, gc_3, gc_4, gc_5, Ly_put, kcf, kca, y_gTo hL hr v.1 hs hi hd, mk.1, (x_far _ (aG_lt v.1 hs hi hd) _ v.2.2.1).2.1, nI_add, nI_1, mCp_e, mC_e, mCv_e, mZ_0, mZ_1, mZ_ifb, if_true, if_false, n10, eq_self, reduceCtorEq, Bool.false_eq_true, Nat.add_zero, Nat.reduceAdd]) 1000 (by omega)
    refine Eq.trans e2 ?_
    rw [f_X7_near_43_s]
    simp (maxDischargeDepth := 40) only [h5, ng_i, hL, gc_0, gc_1, gc_2, gc_3, gc_4, gc_5, Ly_put, kcf, kca, f_X7_near_79, f_X7_near_92, mCp_e, mC_e, mCv_e, mZ_0, mZ_1, mZ_ifb, if_true, if_false, n10, eq_self, reduceCtorEq, Bool.false_eq_true, Nat.add_zero, Nat.reduceAdd]
    rw [show sm (fun s => pFar (aG k.h s i d) k.fold) k.h.f = gN k i d from rfl]
    simp (maxDischargeDepth := 40) only [qe, y_le bl (show gN k i d < 2147483648 by omega), nI_1, mCp_e, mC_e, mCv_e, mZ_0, mZ_1, mZ_ifb, if_true, if_false, n10, eq_self, reduceCtorEq, Bool.false_eq_true, Nat.add_zero, Nat.reduceAdd]
    by_cases c : bL (gN k i) d ≤ gN k i d
    · rw [if_pos c, if_pos c]
    · rw [if_neg c, if_neg c]) 1000 (by decide)
  refine Eq.trans e ?_
  have le5 : ((5 : Int32) ≤ nI 5) = True := by decide
  have b5 : bB (gN k i) 5 = nI (flB (gN k i) 5) := rfl
  have l5 : bL (gN k i) 5 = gN k i (flB (gN k i) 5) := rfl
  rw [f_X7_near_31_s, b5, l5]
  rcases (show w = 0 ∨ w = 1 by omega) with rfl | rfl
  · simp (maxDischargeDepth := 40) only [le5, f_X7_near_108, f_X7_near_118, litz, mCp_e, mC_e, mCv_e, mZ_0, mZ_1, mZ_ifb, if_true, if_false, n10, eq_self, reduceCtorEq, Bool.false_eq_true, Nat.add_zero, Nat.reduceAdd]
  · simp (maxDischargeDepth := 40) only [le5, f_X7_near_108, f_X7_near_118, litz, Nat.one_ne_zero, mCp_e, mC_e, mCv_e, mZ_0, mZ_1, mZ_ifb, if_true, if_false, n10, eq_self, reduceCtorEq, Bool.false_eq_true, Nat.add_zero, Nat.reduceAdd]
theorem o_near {S : mS} (H : Inv S) (v1 v2 : Int32) : Agr (f_X6_near (nI 0) v1 v2) (f_X7_near (nI 83) v1 v2) S := by
  obtain ⟨k, I⟩ := Inv_k H
  have hL := I.1
  have hv : VH k.h := I.2.1.1
  have hr : RH S 2 k.h := I.2.2.1.2.1
  have hm : MK S k := I.2.2.2.1
  have hq : RM S k.h := hm.2.1
  have ho : HO 2 := Or.inl rfl
  have hw := hv.1
  have hf := hv.2.1
  have w7 : k.h.w ≤ 7 := by omega
  cases c1 : dN k.h.w v1 with
  | false =>
    exact Agr_ref (v := -2) 0 (by decide) I (by simp (maxDischargeDepth := 40) only [f_X6_near, f_X6_near_23, hL, gc_0, gc_1, gc_2, gc_3, gc_4, gc_5, Ly_put, kcf, kca, x_hasW _ ho hL hr w7, x_hasS _ ho hL hr hf, x_cell, x_kind, x_iscall, x_isimage, i_in, c1, x_bad hL, mCp_e, mC_e, mCv_e, mZ_0, mZ_1, mZ_ifb, if_true, if_false, n10, eq_self, reduceCtorEq, Bool.false_eq_true, Nat.add_zero, Nat.reduceAdd]) (fun S1 hL1 hm1 => by simp (maxDischargeDepth := 40) only [f_X7_near, f_X7_near_17, hL1, gc_0, gc_1, gc_2, gc_3, gc_4, gc_5, Ly_put, kcf, kca, y_hasW _ hL1 hm1.2.1 w7, y_hasS _ hL1 hm1.2.1 hf, y_cell, y_iscall, i_in, c1, y_bad hL1, mCp_e, mC_e, mCv_e, mZ_0, mZ_1, mZ_ifb, if_true, if_false, n10, eq_self, reduceCtorEq, Bool.false_eq_true, Nat.add_zero, Nat.reduceAdd])
  | true =>
    cases c2 : dN 2 v2 with
    | false =>
      exact Agr_ref (v := -2) 0 (by decide) I (by simp (maxDischargeDepth := 40) only [f_X6_near, f_X6_near_23, hL, gc_0, gc_1, gc_2, gc_3, gc_4, gc_5, Ly_put, kcf, kca, x_hasW _ ho hL hr w7, x_hasS _ ho hL hr hf, x_cell, x_kind, x_iscall, x_isimage, i_in, c1, c2, x_bad hL, mCp_e, mC_e, mCv_e, mZ_0, mZ_1, mZ_ifb, if_true, if_false, n10, eq_self, reduceCtorEq, Bool.false_eq_true, Nat.add_zero, Nat.reduceAdd]) (fun S1 hL1 hm1 => by simp (maxDischargeDepth := 40) only [f_X7_near, f_X7_near_17, hL1, gc_0, gc_1, gc_2, gc_3, gc_4, gc_5, Ly_put, kcf, kca, y_hasW _ hL1 hm1.2.1 w7, y_hasS _ hL1 hm1.2.1 hf, y_cell, y_iscall, i_in, c1, c2, y_bad hL1, mCp_e, mC_e, mCv_e, mZ_0, mZ_1, mZ_ifb, if_true, if_false, n10, eq_self, reduceCtorEq, Bool.false_eq_true, Nat.add_zero, Nat.reduceAdd])
    | true =>
      obtain ⟨i, hi, rfl⟩ := dN_some c1 (by omega)
      obtain ⟨w, hw2, rfl⟩ := dN_some c2 (by decide)
      obtain ⟨S1, x1, x2, x3⟩ := x_near hL I.2.1 I.2.2.1 hi hw2
      exact Agr_k I I.2.1 (r := if w = 0 then nI (flB (gN k i) 5) else nI (gN k i (flB (gN k i) 5))) ⟨S1, by simp (maxDischargeDepth := 40) only [f_X6_near, hL, gc_0, gc_1, gc_2, gc_3, gc_4, gc_5, Ly_put, kcf, kca, x_hasW _ ho hL hr w7, x_hasS _ ho hL hr hf, x_cell, x_kind, x_iscall, x_isimage, i_in, c1, c2, x1, mCp_e, mC_e, mCv_e, mZ_0, mZ_1, mZ_ifb, if_true, if_false, n10, eq_self, reduceCtorEq, Bool.false_eq_true, Nat.add_zero, Nat.reduceAdd], x2, CK_sa (x3.sa (by omega)) I.2.2.1, TC_fr x3 (by omega)⟩ (fun S2 hL1 hm1 => ⟨S2, by simp (maxDischargeDepth := 40) only [f_X7_near, hL1, gc_0, gc_1, gc_2, gc_3, gc_4, gc_5, Ly_put, kcf, kca, y_hasW _ hL1 hm1.2.1 w7, y_hasS _ hL1 hm1.2.1 hf, y_cell, y_iscall, i_in, c1, c2, y_near hL1 I.2.1 hm1 hi hw2, mCp_e, mC_e, mCv_e, mZ_0, mZ_1, mZ_ifb, if_true, if_false, n10, eq_self, reduceCtorEq, Bool.false_eq_true, Nat.add_zero, Nat.reduceAdd], hL1, hm1, TM_rf⟩)
