/-! two shepherds -/
def nB (k : KS) (a b q : Nat) : Nat := cnt (inC (hC (hC k.h a (q / 5)) b (q % 5)) k.fold) k.h.f
def gF (A : Nat → Nat) (i j : Nat) : Int32 := if i = 4 then nI (A (5 * i + j)) - 0 else nI (A (5 * i + j)) - 1
def gS (A : Nat → Nat) (f i j : Nat) : Int32 := if j = 4 then nI f - nI (A (5 * i + j)) - 0 else nI f - nI (A (5 * i + j)) - 1
def rsP (A : Nat → Nat) (f i j d : Nat) : Bool := decide (¬ gF A i j < gF A d j ∧ gS A f i d ≤ gS A f i j)
def rsB (A : Nat → Nat) (f q : Nat) : Bool := al (rsP A f (q / 5) (q % 5)) 5
theorem i5 {i j : Nat} : 5 * nI i + nI j = nI (5 * i + j) := by
  rw [show 5 * nI i = nI (5 * i) from nI_mul 5 i, nI_add]
theorem x_gF {S : mS} {A : Nat → Nat} {i j : Nat} (hL : Ly S) (h : ∀ q, q < 25 → S.2.1 82 q = nI (A q)) (hi : i < 5) (hj : j < 5) : f_X6_gainOfFirst (nI 0) (nI i) (nI j) S = some (gF A i j) := by
  have b : 5 * i + j < 25 := by omega
  have e4 : (nI i = 4) = (i = 4) := eq_i (b := 4) (by omega) (by decide)
  simp (maxDischargeDepth := 40) only [f_X6_gainOfFirst, f_X6_gainOfFirst_20, hL, gc_0, gc_1, gc_2, gc_3, gc_4, gc_5, Ly_put, kcf, kca, i5, b, h _ b, e4, mCp_e, mC_e, mCv_e, mZ_0, mZ_1, mZ_ifb, if_true, if_false, n10, eq_self, reduceCtorEq, Bool.false_eq_true, Nat.add_zero, Nat.reduceAdd]
  unfold gF
  by_cases c : i = 4
  · rw [if_pos c, if_pos c]
  · rw [if_neg c, if_neg c]
theorem x_gS {S : mS} {A : Nat → Nat} {f i j : Nat} (hL : Ly S) (hf : S.2.1 2 5 = nI f) (h : ∀ q, q < 25 → S.2.1 82 q = nI (A q)) (hi : i < 5) (hj : j < 5) : f_X6_gainOfSecond (nI 0) (nI i) (nI j) S = some (gS A f i j) := by
  have b : 5 * i + j < 25 := by omega
  have e4 : (nI j = 4) = (j = 4) := eq_i (b := 4) (by omega) (by decide)
  simp (maxDischargeDepth := 40) only [f_X6_gainOfSecond, f_X6_gainOfSecond_31, hL, gc_0, gc_1, gc_2, gc_3, gc_4, gc_5, Ly_put, kcf, kca, hf, i5, b, h _ b, e4, mCp_e, mC_e, mCv_e, mZ_0, mZ_1, mZ_ifb, if_true, if_false, n10, eq_self, reduceCtorEq, Bool.false_eq_true, Nat.add_zero, Nat.reduceAdd]
  unfold gS
  by_cases c : j = 4
  · rw [if_pos c, if_pos c]
  · rw [if_neg c, if_neg c]
theorem y_gF {S : mS} {A : Nat → Nat} {i j : Nat} (hL : Ly S) (h : ∀ q, q < 25 → S.2.1 97 q = nI (A q)) (hi : i < 5) (hj : j < 5) : f_X7_firstGets (nI 83) (nI i) (nI j) S = some (gF A i j) := by
  have b : 5 * i + j < 25 := by omega
  have e4 : (nI i = 4) = (i = 4) := eq_i (b := 4) (by omega) (by decide)
  simp (maxDischargeDepth := 40) only [f_X7_firstGets, f_X7_firstGets_20, hL, gc_0, gc_1, gc_2, gc_3, gc_4, gc_5, Ly_put, kcf, kca, i5, b, h _ b, e4, mCp_e, mC_e, mCv_e, mZ_0, mZ_1, mZ_ifb, if_true, if_false, n10, eq_self, reduceCtorEq, Bool.false_eq_true, Nat.add_zero, Nat.reduceAdd]
  unfold gF
  by_cases c : i = 4
  · rw [if_pos c, if_pos c]
  · rw [if_neg c, if_neg c]
theorem y_gS {S : mS} {A : Nat → Nat} {f i j : Nat} (hL : Ly S) (hf : S.2.1 83 2 = nI f) (h : ∀ q, q < 25 → S.2.1 97 q = nI (A q)) (hi : i < 5) (hj : j < 5) : f_X7_secondGets (nI 83) (nI i) (nI j) S = some (gS A f i j) := by
  have b : 5 * i + j < 25 := by omega
  have e4 : (nI j = 4) = (j = 4) := eq_i (b := 4) (by omega) (by decide)
  simp (maxDischargeDepth := 40) only [f_X7_secondGets, f_X7_secondGets_25, hL, gc_0, gc_1, gc_2, gc_3, gc_4, gc_5, Ly_put, kcf, kca, hf, i5, b, h _ b, e4, mCp_e, mC_e, mCv_e, mZ_0, mZ_1, mZ_ifb, if_true, if_false, n10, eq_self, reduceCtorEq, Bool.false_eq_true, Nat.add_zero, Nat.reduceAdd]
  unfold gS
  by_cases c : j = 4
  · rw [if_pos c, if_pos c]
  · rw [if_neg c, if_neg c]
theorem x_rest {S : mS} {A : Nat → Nat} {f i j : Nat} (hL : Ly S) (hf : S.2.1 2 5 = nI f) (h : ∀ q, q < 25 → S.2.1 82 q = nI (A q)) (hi : i < 5) (hj : j < 5) : f_X6_rests (nI 0) (nI i) (nI j) S = some (if rsB A f (5 * i + j) = true then 1 else 0) := by
  have e := lupE (fun n d => f_X6_rests_2 (f_X6_rests_37 S) (f_X6_rests_45 S) S n (nI 0) (nI i) (nI j) (nI d)) (rsP A f i j) 5 (some 1) (some 0) (fun n d hd => by
    have le : ((5 : Int32) ≤ nI d) = False := eq_false (nI_ge hd (by decide))
    show f_X6_rests_2 (f_X6_rests_37 S) (f_X6_rests_45 S) S (n + 1) _ _ _ _ = _
    rw [f_X6_rests_2_s]
    simp (maxDischargeDepth := 40) only [le, hL, gc_0, gc_1, gc_2, gc_3, gc_4, gc_5, Ly_put, kcf, kca, x_gF hL h hd hj, x_gF hL h hi hj, x_gS hL hf h hi hd, x_gS hL hf h hi hj, f_X6_rests_37, nI_1, mCp_e, mC_e, mCv_e, mZ_0, mZ_1, mZ_ifb, if_true, if_false, n10, eq_self, reduceCtorEq, Bool.false_eq_true, Nat.add_zero, Nat.reduceAdd]
    unfold rsP
    by_cases c1 : gF A i j < gF A d j
    · simp [c1]
    · by_cases c2 : gS A f i d ≤ gS A f i j
      · simp [c1, c2]
      · simp [c1, c2]) (fun n => by
    have le : ((5 : Int32) ≤ nI 5) = True := by decide
    show f_X6_rests_2 (f_X6_rests_37 S) (f_X6_rests_45 S) S (n + 1) _ _ _ _ = _
    rw [f_X6_rests_2_s]
    simp (maxDischargeDepth := 40) only [le, f_X6_rests_45, mCp_e, mC_e, mCv_e, mZ_0, mZ_1, mZ_ifb, if_true, if_false, n10, eq_self, reduceCtorEq, Bool.false_eq_true, Nat.add_zero, Nat.reduceAdd]) 1000 (by decide)
  unfold f_X6_rests
  refine Eq.trans e ?_
  unfold rsB
  rw [(q5 hj).1, (q5 hj).2]
  cases al (rsP A f i j) 5 <;> rfl
theorem y_rest {S : mS} {A : Nat → Nat} {f i j : Nat} (hL : Ly S) (hf : S.2.1 83 2 = nI f) (h : ∀ q, q < 25 → S.2.1 97 q = nI (A q)) (hi : i < 5) (hj : j < 5) : f_X7_rests (nI 83) (nI i) (nI j) S = some (if rsB A f (5 * i + j) = true then 1 else 0) := by
  obtain ⟨m, e⟩ := lup (fun n d => f_X7_rests_5 (f_X7_rests_59 S) S n (nI 83) (nI i) (nI j) (if al (rsP A f i j) d = true then 1 else 0) (nI d)) 5 (fun n d hd => by
    have le : ((5 : Int32) ≤ nI d) = False := eq_false (nI_ge hd (by decide))
    show f_X7_rests_5 (f_X7_rests_59 S) S (n + 1) _ _ _ _ _ = _
    rw [f_X7_rests_5_s, al_s]
    simp (maxDischargeDepth := 40) only [le, hL, gc_0, gc_1, gc_2, gc_3, gc_4, gc_5, Ly_put, kcf, kca, y_gF hL h hd hj, y_gF hL h hi hj, y_gS hL hf h hi hd, y_gS hL hf h hi hj, f_X7_rests_51, f_X7_rests_52, nI_1, mCp_e, mC_e, mCv_e, mZ_0, mZ_1, mZ_ifb, if_true, if_false, n10, eq_self, reduceCtorEq, Bool.false_eq_true, Nat.add_zero, Nat.reduceAdd]
    cases al (rsP A f i j) d
    · simp (maxDischargeDepth := 40) only [mCp_e, mC_e, mCv_e, mZ_0, mZ_1, mZ_ifb, if_true, if_false, n10, eq_self, reduceCtorEq, Bool.false_eq_true, Nat.add_zero, Nat.reduceAdd, Bool.false_and]
    · unfold rsP
      by_cases c1 : gF A i j < gF A d j
      · simp [c1]
      · by_cases c2 : gS A f i d ≤ gS A f i j
        · simp [c1, c2, Int32.not_lt.mpr c2]
        · simp [c1, c2, Int32.not_le.mp c2]) 1000 (by decide)
  unfold f_X7_rests
  refine Eq.trans e ?_
  have le : ((5 : Int32) ≤ nI 5) = True := by decide
  rw [f_X7_rests_5_s]
  simp (maxDischargeDepth := 40) only [le, f_X7_rests_59, mCp_e, mC_e, mCv_e, mZ_0, mZ_1, mZ_ifb, if_true, if_false, n10, eq_self, reduceCtorEq, Bool.false_eq_true, Nat.add_zero, Nat.reduceAdd]
  unfold rsB
  rw [(q5 hj).1, (q5 hj).2]
theorem x_sh {S : mS} {A : Nat → Nat} {f : Nat} {K : Int32} (hL : Ly S) (hf : S.2.1 2 5 = nI f) (h : ∀ q, q < 25 → S.2.1 82 q = nI (A q)) : f_X6_shepherds_57 f_X6_shepherds_113 1000 (nI 0) K 0 0 S = some (wRes (rsB A f) K 25, S) := by
  refine lupX (fun n i (s : Int32) => f_X6_shepherds_57 f_X6_shepherds_113 n (nI 0) K s (nI i) S) (fun i s => s = nI (cnt (rsB A f) (5 * i)) ∧ ∀ q, q < 5 * i → ¬ (rsB A f q = true ∧ nI (cnt (rsB A f) q) = K)) (fun b => b = some (wRes (rsB A f) K 25, S)) 5 (fun n i s hi hp => ?_) (fun n s hp => ?_) 1000 (nI 0) ⟨rfl, fun q hq => absurd hq (by omega)⟩ (by omega)
  · obtain ⟨hp1, hp2⟩ := hp
    have le : ((5 : Int32) ≤ nI i) = False := eq_false (nI_ge hi (by decide))
    have e0 : f_X6_shepherds_57 f_X6_shepherds_113 (n + 1) (nI 0) K s (nI i) S = f_X6_shepherds_66 (f_X6_shepherds_107 (f_X6_shepherds_57 f_X6_shepherds_113 n)) 1000 (nI 0) K s (nI i) (nI 0) S := by
      rw [f_X6_shepherds_57_s]
      simp (maxDischargeDepth := 40) only [le, mCp_e, mC_e, mCv_e, mZ_0, mZ_1, mZ_ifb, if_true, if_false, n10, eq_self, reduceCtorEq, Bool.false_eq_true, Nat.add_zero, Nat.reduceAdd]
      rfl
    have key := lupX (fun n2 d (s : Int32) => f_X6_shepherds_66 (f_X6_shepherds_107 (f_X6_shepherds_57 f_X6_shepherds_113 n)) n2 (nI 0) K s (nI i) (nI d) S) (fun d s => s = nI (cnt (rsB A f) (5 * i + d)) ∧ ∀ q, q < 5 * i + d → ¬ (rsB A f q = true ∧ nI (cnt (rsB A f) q) = K)) (fun b => b = some (wRes (rsB A f) K 25, S) ∨ ((∀ q, q < 5 * (i + 1) → ¬ (rsB A f q = true ∧ nI (cnt (rsB A f) q) = K)) ∧ b = f_X6_shepherds_57 f_X6_shepherds_113 n (nI 0) K (nI (cnt (rsB A f) (5 * (i + 1)))) (nI (i + 1)) S)) 5 (fun n2 d s hd hp => ?_) (fun n2 s hp => ?_) 1000 s ⟨hp1, hp2⟩ (by decide)
    · rcases key with key | ⟨k1, k2⟩
      · exact Or.inl (e0.trans key)
      · exact Or.inr ⟨nI (cnt (rsB A f) (5 * (i + 1))), ⟨rfl, k1⟩, e0.trans k2⟩
    · obtain ⟨g1, g2⟩ := hp
      have le5 : ((5 : Int32) ≤ nI d) = False := eq_false (nI_ge hd (by decide))
      have em : 10 * nI i = nI (10 * i) := nI_mul 10 i
      have ec : cnt (rsB A f) (5 * i + (d + 1)) = cnt (rsB A f) (5 * i + d) + (if rsB A f (5 * i + d) = true then 1 else 0) := cnt_s _ _
      have st : f_X6_shepherds_66 (f_X6_shepherds_107 (f_X6_shepherds_57 f_X6_shepherds_113 n)) (n2 + 1) (nI 0) K s (nI i) (nI d) S = if rsB A f (5 * i + d) = true then (if s = K then some (nI (10 * i + d), S) else f_X6_shepherds_66 (f_X6_shepherds_107 (f_X6_shepherds_57 f_X6_shepherds_113 n)) n2 (nI 0) K (s + 1) (nI i) (nI (d + 1)) S) else f_X6_shepherds_66 (f_X6_shepherds_107 (f_X6_shepherds_57 f_X6_shepherds_113 n)) n2 (nI 0) K s (nI i) (nI (d + 1)) S := by
        rw [f_X6_shepherds_66_s]
        simp (maxDischargeDepth := 40) only [le5, hL, gc_0, gc_1, gc_2, gc_3, gc_4, gc_5, Ly_put, kcf, kca, x_rest hL hf h hi hd, f_X6_shepherds_101, em, nI_add, nI_1, mCp_e, mC_e, mCv_e, mZ_0, mZ_1, mZ_ifb, if_true, if_false, n10, eq_self, reduceCtorEq, Bool.false_eq_true, Nat.add_zero, Nat.reduceAdd]
        cases rsB A f (5 * i + d)
        · simp (maxDischargeDepth := 40) only [mCp_e, mC_e, mCv_e, mZ_0, mZ_1, mZ_ifb, if_true, if_false, n10, eq_self, reduceCtorEq, Bool.false_eq_true, Nat.add_zero, Nat.reduceAdd]
        · simp (maxDischargeDepth := 40) only [mCp_e, mC_e, mCv_e, mZ_0, mZ_1, mZ_ifb, if_true, if_false, n10, eq_self, reduceCtorEq, Bool.false_eq_true, Nat.add_zero, Nat.reduceAdd]
      cases c : rsB A f (5 * i + d) with
      | false =>
        refine Or.inr ⟨s, ⟨by rw [ec, c, g1]; rfl, fun q hq => ?_⟩, by show f_X6_shepherds_66 _ (n2 + 1) _ _ _ _ _ _ = _; rw [st, c]; rfl⟩
        by_cases e : q = 5 * i + d
        · rw [e, c]
          exact fun z => by cases z.1
        · exact g2 q (by omega)
      | true =>
        by_cases c2 : s = K
        · refine Or.inl (Or.inl ?_)
          show f_X6_shepherds_66 _ (n2 + 1) _ _ _ _ _ _ = _
          rw [st, c, if_pos rfl, if_pos c2, wRes_hit (q := 5 * i + d) c (by rw [← g1, c2]) (by omega) (by omega), (q5 hd).1, (q5 hd).2]
        · refine Or.inr ⟨s + 1, ⟨by rw [ec, c, g1, if_pos rfl, nI_1], fun q hq => ?_⟩, by show f_X6_shepherds_66 _ (n2 + 1) _ _ _ _ _ _ = _; rw [st, c, if_pos rfl, if_neg c2]⟩
          by_cases e : q = 5 * i + d
          · rw [e, ← g1]
            exact fun z => c2 z.2
          · exact g2 q (by omega)
    · obtain ⟨g1, g2⟩ := hp
      refine Or.inr ⟨fun q hq => g2 q (by omega), ?_⟩
      show f_X6_shepherds_66 _ (n2 + 1) _ _ _ _ (nI 5) _ = _
      have le5 : ((5 : Int32) ≤ nI 5) = True := by decide
      rw [f_X6_shepherds_66_s]
      simp (maxDischargeDepth := 40) only [le5, f_X6_shepherds_107, g1, nI_1, mCp_e, mC_e, mCv_e, mZ_0, mZ_1, mZ_ifb, if_true, if_false, n10, eq_self, reduceCtorEq, Bool.false_eq_true, Nat.add_zero, Nat.reduceAdd]
      rfl
  · obtain ⟨g1, g2⟩ := hp
    show f_X6_shepherds_57 f_X6_shepherds_113 (n + 1) (nI 0) K s (nI 5) S = _
    have le5 : ((5 : Int32) ≤ nI 5) = True := by decide
    rw [f_X6_shepherds_57_s]
    simp (maxDischargeDepth := 40) only [le5, f_X6_shepherds_113, f_X6_shepherds_125, g1, mCp_e, mC_e, mCv_e, mZ_0, mZ_1, mZ_ifb, if_true, if_false, n10, eq_self, reduceCtorEq, Bool.false_eq_true, Nat.add_zero, Nat.reduceAdd]
    unfold wRes
    by_cases c : K = -1
    · rw [if_pos c, if_pos c]
    · rw [if_neg c, if_neg c, tol_no g2]
theorem dv25 : ∀ q, q < 25 → nI q / 5 = nI (q / 5) ∧ mRem (nI q) 5 = nI (q % 5) := by decide +kernel
theorem y_sh {S : mS} {A : Nat → Nat} {f : Nat} {K : Int32} (hL : Ly S) (hf : S.2.1 83 2 = nI f) (h : ∀ q, q < 25 → S.2.1 97 q = nI (A q)) : f_X7_shepherds_71 (nI 83) K S = some (wRes (rsB A f) K 25, S) := by
  obtain ⟨m, e⟩ := lup (fun n q => f_X7_shepherds_81 f_X7_shepherds_137 n (nI 83) K (nI (cnt (rsB A f) q)) (tol (rsB A f) K q) (nI q) S) 25 (fun n q hq => by
    have le : ((25 : Int32) ≤ nI q) = False := eq_false (nI_ge hq (by decide))
    have dq := dv25 q hq
    have em : ∀ x, 10 * nI x = nI (10 * x) := fun x => nI_mul 10 x
    have rs := y_rest (i := q / 5) (j := q % 5) hL hf h (by omega) (by omega)
    rw [show 5 * (q / 5) + q % 5 = q by omega] at rs
    show f_X7_shepherds_81 f_X7_shepherds_137 (n + 1) _ _ _ _ _ S = _
    rw [f_X7_shepherds_81_s, cnt_s, tol_s]
    simp (maxDischargeDepth := 40) only [le, hL, gc_0, gc_1, gc_2, gc_3, gc_4, gc_5, Ly_put, kcf, kca, dq.1, dq.2, rs, f_X7_shepherds_131, f_X7_shepherds_126, em, nI_add, nI_1, mCp_e, mC_e, mCv_e, mZ_0, mZ_1, mZ_ifb, if_true, if_false, n10, eq_self, reduceCtorEq, Bool.false_eq_true, Nat.add_zero, Nat.reduceAdd]
    cases rsB A f q
    · simp (maxDischargeDepth := 40) only [mCp_e, mC_e, mCv_e, mZ_0, mZ_1, mZ_ifb, if_true, if_false, n10, eq_self, reduceCtorEq, Bool.false_eq_true, Nat.add_zero, Nat.reduceAdd, false_and]
    · simp (maxDischargeDepth := 40) only [mCp_e, mC_e, mCv_e, mZ_0, mZ_1, mZ_ifb, if_true, if_false, n10, eq_self, reduceCtorEq, Bool.false_eq_true, Nat.add_zero, Nat.reduceAdd, true_and]
      by_cases c : nI (cnt (rsB A f) q) = K
      · rw [if_pos c, if_pos c]
      · rw [if_neg c, if_neg c]) 1000 (by decide)
  unfold f_X7_shepherds_71
  refine Eq.trans e ?_
  have le : ((25 : Int32) ≤ nI 25) = True := by decide
  rw [f_X7_shepherds_81_s]
  simp (maxDischargeDepth := 40) only [le, f_X7_shepherds_137, f_X7_shepherds_149, mCp_e, mC_e, mCv_e, mZ_0, mZ_1, mZ_ifb, if_true, if_false, n10, eq_self, reduceCtorEq, Bool.false_eq_true, Nat.add_zero, Nat.reduceAdd]
  unfold wRes
  by_cases c : K = -1
  · rw [if_pos c, if_pos c]
  · rw [if_neg c, if_neg c]
