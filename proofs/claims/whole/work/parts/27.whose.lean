/-! the k-th of the pairs that hold -/
theorem cnt_mono (p : Nat → Bool) {a b : Nat} (h : a ≤ b) : cnt p a ≤ cnt p b := by
  induction b with
  | zero =>
    obtain rfl : a = 0 := by omega
    exact Nat.le_refl _
  | succ b ih =>
    by_cases e : a = b + 1
    · rw [e]
      exact Nat.le_refl _
    · rw [cnt_s]
      have := ih (by omega)
      omega
def tol (p : Nat → Bool) (K : Int32) : Nat → Int32
  | 0 => -5
  | q + 1 => if p q = true ∧ nI (cnt p q) = K then nI (10 * (q / 5) + q % 5) else tol p K q
theorem tol_s (p : Nat → Bool) (K : Int32) (q : Nat) : tol p K (q + 1) = if p q = true ∧ nI (cnt p q) = K then nI (10 * (q / 5) + q % 5) else tol p K q := rfl
theorem tol_hit {p : Nat → Bool} {K : Int32} {q N : Nat} (hp : p q = true) (hk : nI (cnt p q) = K) (hq : q < N) (hN : N ≤ 100) : tol p K N = nI (10 * (q / 5) + q % 5) := by
  induction N with
  | zero => omega
  | succ N ih =>
    rw [tol_s]
    by_cases e : q = N
    · subst e
      rw [if_pos ⟨hp, hk⟩]
    · rw [if_neg, ih (by omega) (by omega)]
      rintro ⟨h1, h2⟩
      rw [← hk, nI_eq (by have := cnt_le p N; omega) (by have := cnt_le p q; omega)] at h2
      have h3 := cnt_mono p (show q + 1 ≤ N by omega)
      rw [cnt_s, if_pos hp] at h3
      omega
theorem tol_no {p : Nat → Bool} {K : Int32} {N : Nat} (h : ∀ q, q < N → ¬ (p q = true ∧ nI (cnt p q) = K)) : tol p K N = -5 := by
  induction N with
  | zero => rfl
  | succ N ih => rw [tol_s, if_neg (h N (by omega)), ih (fun q hq => h q (by omega))]
def wRes (p : Nat → Bool) (K : Int32) (N : Nat) : Int32 := if K = -1 then nI (cnt p N) else tol p K N
theorem nI_nm1 {n : Nat} (h : n < 2147483648) : (nI n = -1) = False := eq_false (fun e => by
  have := nI_pos h
  rw [e] at this
  exact this (by decide))
theorem wRes_hit {p : Nat → Bool} {K : Int32} {q N : Nat} (hp : p q = true) (hk : nI (cnt p q) = K) (hq : q < N) (hN : N ≤ 100) : wRes p K N = nI (10 * (q / 5) + q % 5) := by
  unfold wRes
  rw [if_neg, tol_hit hp hk hq hN]
  rw [← hk, nI_nm1 (by have := cnt_le p q; omega)]
  exact id
theorem q5 {i d : Nat} (hd : d < 5) : (5 * i + d) / 5 = i ∧ (5 * i + d) % 5 = d := by omega
def pF (k : KS) (q : Nat) : Bool := fC k (q / 5) (q % 5)
theorem x_whose {S : mS} {k : KS} {K : Int32} (hL : Ly S) (v : VK k) (ck : CK S 1 k) : f_X6_whose_16 f_X6_whose_84 1000 (nI 0) K 0 0 S = some (wRes (pF k) K (5 * k.h.w), S) := by
  have hw := v.1.1
  have h4 : S.2.1 2 4 = nI k.h.w := ck.2.1.1
  refine lupX (fun n i (s : Int32) => f_X6_whose_16 f_X6_whose_84 n (nI 0) K s (nI i) S) (fun i s => s = nI (cnt (pF k) (5 * i)) ∧ ∀ q, q < 5 * i → ¬ (pF k q = true ∧ nI (cnt (pF k) q) = K)) (fun b => b = some (wRes (pF k) K (5 * k.h.w), S)) k.h.w (fun n i s hi hp => ?_) (fun n s hp => ?_) 1000 (nI 0) ⟨rfl, fun q hq => absurd hq (by omega)⟩ (by omega)
  · obtain ⟨hp1, hp2⟩ := hp
    have le : (nI k.h.w ≤ nI i) = False := eq_false (nI_ge hi (by omega))
    have e0 : f_X6_whose_16 f_X6_whose_84 (n + 1) (nI 0) K s (nI i) S = f_X6_whose_40 (f_X6_whose_78 (f_X6_whose_16 f_X6_whose_84 n)) 1000 (nI 0) K s (nI i) (bI (fC k i) 5) (nI 0) S := by
      rw [f_X6_whose_16_s]
      simp (maxDischargeDepth := 40) only [hL, gc_0, gc_1, gc_2, gc_3, gc_4, gc_5, Ly_put, kcf, kca, h4, le, x_fitC hL v ck hi, mCp_e, mC_e, mCv_e, mZ_0, mZ_1, mZ_ifb, if_true, if_false, n10, eq_self, reduceCtorEq, Bool.false_eq_true, Nat.add_zero, Nat.reduceAdd]
      rfl
    have key := lupX (fun n2 d (s : Int32) => f_X6_whose_40 (f_X6_whose_78 (f_X6_whose_16 f_X6_whose_84 n)) n2 (nI 0) K s (nI i) (bI (fC k i) 5) (nI d) S) (fun d s => s = nI (cnt (pF k) (5 * i + d)) ∧ ∀ q, q < 5 * i + d → ¬ (pF k q = true ∧ nI (cnt (pF k) q) = K)) (fun b => b = some (wRes (pF k) K (5 * k.h.w), S) ∨ ((∀ q, q < 5 * (i + 1) → ¬ (pF k q = true ∧ nI (cnt (pF k) q) = K)) ∧ b = f_X6_whose_16 f_X6_whose_84 n (nI 0) K (nI (cnt (pF k) (5 * (i + 1)))) (nI (i + 1)) S)) 5 (fun n2 d s hd hp => ?_) (fun n2 s hp => ?_) 1000 s ⟨hp1, hp2⟩ (by decide)
    · rcases key with key | ⟨k1, k2⟩
      · exact Or.inl (e0.trans key)
      · exact Or.inr ⟨nI (cnt (pF k) (5 * (i + 1))), ⟨rfl, k1⟩, e0.trans k2⟩
    · obtain ⟨g1, g2⟩ := hp
      have le5 : ((5 : Int32) ≤ nI d) = False := eq_false (nI_ge hd (by decide))
      have tbd : tb (bI (fC k i) 5) d = fC k i d := by rw [bI_tb _ _ (by decide) _ (by omega), decide_eq_true hd, Bool.true_and]
      have pq : pF k (5 * i + d) = fC k i d := by unfold pF; rw [(q5 hd).1, (q5 hd).2]
      have em : 10 * nI i = nI (10 * i) := nI_mul 10 i
      have ec : cnt (pF k) (5 * i + (d + 1)) = cnt (pF k) (5 * i + d) + (if pF k (5 * i + d) = true then 1 else 0) := cnt_s _ _
      have st : f_X6_whose_40 (f_X6_whose_78 (f_X6_whose_16 f_X6_whose_84 n)) (n2 + 1) (nI 0) K s (nI i) (bI (fC k i) 5) (nI d) S = if fC k i d = true then (if s = K then some (nI (10 * i + d), S) else f_X6_whose_40 (f_X6_whose_78 (f_X6_whose_16 f_X6_whose_84 n)) n2 (nI 0) K (s + 1) (nI i) (bI (fC k i) 5) (nI (d + 1)) S) else f_X6_whose_40 (f_X6_whose_78 (f_X6_whose_16 f_X6_whose_84 n)) n2 (nI 0) K s (nI i) (bI (fC k i) 5) (nI (d + 1)) S := by
        rw [f_X6_whose_40_s]
        simp (maxDischargeDepth := 40) only [le5, (x_hasB (v := bI (fC k i) 5) (show d < 32 by omega)).1, tbd, f_X6_whose_72, em, nI_add, nI_1, mCp_e, mC_e, mCv_e, mZ_0, mZ_1, mZ_ifb, if_true, if_false, n10, eq_self, reduceCtorEq, Bool.false_eq_true, Nat.add_zero, Nat.reduceAdd]
        cases fC k i d
        · simp (maxDischargeDepth := 40) only [mCp_e, mC_e, mCv_e, mZ_0, mZ_1, mZ_ifb, if_true, if_false, n10, eq_self, reduceCtorEq, Bool.false_eq_true, Nat.add_zero, Nat.reduceAdd]
        · simp (maxDischargeDepth := 40) only [mCp_e, mC_e, mCv_e, mZ_0, mZ_1, mZ_ifb, if_true, if_false, n10, eq_self, reduceCtorEq, Bool.false_eq_true, Nat.add_zero, Nat.reduceAdd]
      cases c : fC k i d with
      | false =>
        refine Or.inr ⟨s, ⟨by rw [ec, pq, c, g1]; rfl, fun q hq => ?_⟩, by show f_X6_whose_40 _ (n2 + 1) _ _ _ _ _ _ _ = _; rw [st, c]; rfl⟩
        by_cases e : q = 5 * i + d
        · rw [e, pq, c]
          exact fun z => by cases z.1
        · exact g2 q (by omega)
      | true =>
        by_cases c2 : s = K
        · refine Or.inl (Or.inl ?_)
          show f_X6_whose_40 _ (n2 + 1) _ _ _ _ _ _ _ = _
          rw [st, c, if_pos rfl, if_pos c2, wRes_hit (q := 5 * i + d) (by rw [pq, c]) (by rw [← g1, c2]) (by omega) (by omega), (q5 hd).1, (q5 hd).2]
        · refine Or.inr ⟨s + 1, ⟨by rw [ec, pq, c, g1, if_pos rfl, nI_1], fun q hq => ?_⟩, by show f_X6_whose_40 _ (n2 + 1) _ _ _ _ _ _ _ = _; rw [st, c, if_pos rfl, if_neg c2]⟩
          by_cases e : q = 5 * i + d
          · rw [e, ← g1]
            exact fun z => c2 z.2
          · exact g2 q (by omega)
    · obtain ⟨g1, g2⟩ := hp
      refine Or.inr ⟨fun q hq => g2 q (by omega), ?_⟩
      show f_X6_whose_40 _ (n2 + 1) _ _ _ _ _ (nI 5) _ = _
      have le5 : ((5 : Int32) ≤ nI 5) = True := by decide
      rw [f_X6_whose_40_s]
      simp (maxDischargeDepth := 40) only [le5, f_X6_whose_78, g1, nI_1, mCp_e, mC_e, mCv_e, mZ_0, mZ_1, mZ_ifb, if_true, if_false, n10, eq_self, reduceCtorEq, Bool.false_eq_true, Nat.add_zero, Nat.reduceAdd]
      rfl
  · obtain ⟨g1, g2⟩ := hp
    show f_X6_whose_16 f_X6_whose_84 (n + 1) (nI 0) K s (nI k.h.w) S = _
    rw [f_X6_whose_16_s]
    simp (maxDischargeDepth := 40) only [hL, gc_0, gc_1, gc_2, gc_3, gc_4, gc_5, Ly_put, kcf, kca, h4, ng_i, f_X6_whose_84, f_X6_whose_95, g1, mCp_e, mC_e, mCv_e, mZ_0, mZ_1, mZ_ifb, if_true, if_false, n10, eq_self, reduceCtorEq, Bool.false_eq_true, Nat.add_zero, Nat.reduceAdd]
    unfold wRes
    by_cases c : K = -1
    · rw [if_pos c, if_pos c]
    · rw [if_neg c, if_neg c, tol_no g2]
theorem y_whose {S : mS} {k : KS} {K : Int32} (hL : Ly S) (v : VK k) (mk : MK S k) : f_X7_whose_21 f_X7_whose_86 1000 (nI 83) K 0 (-5) 0 S = some (wRes (pF k) K (5 * k.h.w), S) := by
  have hw := v.1.1
  have h4 : S.2.1 83 1 = nI k.h.w := mk.2.1.1
  obtain ⟨m, e⟩ := lup (fun n i => f_X7_whose_21 f_X7_whose_86 n (nI 83) K (nI (cnt (pF k) (5 * i))) (tol (pF k) K (5 * i)) (nI i) S) k.h.w (fun n i hi => by
    have le : (nI k.h.w ≤ nI i) = False := eq_false (nI_ge hi (by omega))
    show f_X7_whose_21 f_X7_whose_86 (n + 1) _ _ _ _ _ _ = _
    rw [f_X7_whose_21_s]
    simp (maxDischargeDepth := 40) only [hL, gc_0, gc_1, gc_2, gc_3, gc_4, gc_5, Ly_put, kcf, kca, h4, le, mCp_e, mC_e, mCv_e, mZ_0, mZ_1, mZ_ifb, if_true, if_false, n10, eq_self, reduceCtorEq, Bool.false_eq_true, Nat.add_zero, Nat.reduceAdd]
    obtain ⟨m2, e2⟩ := lup (fun n2 d => f_X7_whose_33 (f_X7_whose_80 (f_X7_whose_21 f_X7_whose_86 n)) n2 (nI 83) K (nI (cnt (pF k) (5 * i + d))) (tol (pF k) K (5 * i + d)) (nI i) (nI d) S) 5 (fun n2 d hd => by
      have le5 : ((5 : Int32) ≤ nI d) = False := eq_false (nI_ge hd (by decide))
      have tbd : tb (bI (fC k i) 5) d = fC k i d := by rw [bI_tb _ _ (by decide) _ (by omega), decide_eq_true hd, Bool.true_and]
      have pq : pF k (5 * i + d) = fC k i d := by unfold pF; rw [(q5 hd).1, (q5 hd).2]
      have em : 10 * nI i = nI (10 * i) := nI_mul 10 i
      show f_X7_whose_33 _ (n2 + 1) _ _ _ _ _ _ _ = f_X7_whose_33 _ n2 _ _ (nI (cnt (pF k) (5 * i + d + 1))) (tol (pF k) K (5 * i + d + 1)) _ _ _
      rw [f_X7_whose_33_s, cnt_s, tol_s, pq, (q5 hd).1, (q5 hd).2]
      simp (maxDischargeDepth := 40) only [le5, hL, gc_0, gc_1, gc_2, gc_3, gc_4, gc_5, Ly_put, kcf, kca, y_cBy hL v mk hi, (x_hasB (v := bI (fC k i) 5) (show d < 32 by omega)).2, tbd, f_X7_whose_74, f_X7_whose_70, em, nI_add, nI_1, mCp_e, mC_e, mCv_e, mZ_0, mZ_1, mZ_ifb, if_true, if_false, n10, eq_self, reduceCtorEq, Bool.false_eq_true, Nat.add_zero, Nat.reduceAdd]
      cases fC k i d
      · simp (maxDischargeDepth := 40) only [mCp_e, mC_e, mCv_e, mZ_0, mZ_1, mZ_ifb, if_true, if_false, n10, eq_self, reduceCtorEq, Bool.false_eq_true, Nat.add_zero, Nat.reduceAdd, false_and]
      · simp (maxDischargeDepth := 40) only [mCp_e, mC_e, mCv_e, mZ_0, mZ_1, mZ_ifb, if_true, if_false, n10, eq_self, reduceCtorEq, Bool.false_eq_true, Nat.add_zero, Nat.reduceAdd, true_and]
        by_cases c : nI (cnt (pF k) (5 * i + d)) = K
        · rw [if_pos c, if_pos c]
        · rw [if_neg c, if_neg c]) 1000 (by decide)
    refine Eq.trans e2 ?_
    have le5 : ((5 : Int32) ≤ nI 5) = True := by decide
    rw [f_X7_whose_33_s]
    simp (maxDischargeDepth := 40) only [le5, f_X7_whose_80, nI_1, mCp_e, mC_e, mCv_e, mZ_0, mZ_1, mZ_ifb, if_true, if_false, n10, eq_self, reduceCtorEq, Bool.false_eq_true, Nat.add_zero, Nat.reduceAdd]
    rfl) 1000 (by omega)
  refine Eq.trans e ?_
  rw [f_X7_whose_21_s]
  simp (maxDischargeDepth := 40) only [hL, gc_0, gc_1, gc_2, gc_3, gc_4, gc_5, Ly_put, kcf, kca, h4, ng_i, f_X7_whose_86, f_X7_whose_96, mCp_e, mC_e, mCv_e, mZ_0, mZ_1, mZ_ifb, if_true, if_false, n10, eq_self, reduceCtorEq, Bool.false_eq_true, Nat.add_zero, Nat.reduceAdd]
  unfold wRes
  by_cases c : K = -1
  · rw [if_pos c, if_pos c]
  · rw [if_neg c, if_neg c]
theorem o_whose {S : mS} (H : Inv S) (v1 : Int32) : Agr (f_X6_whose (nI 0) v1) (f_X7_whose (nI 83) v1) S := by
  obtain ⟨k, I⟩ := Inv_k H
  have hL := I.1
  have hv : VH k.h := I.2.1.1
  have hr : RH S 2 k.h := I.2.2.1.2.1
  have hm : MK S k := I.2.2.2.1
  have hq : RM S k.h := hm.2.1
  have ho : HO 2 := Or.inl rfl
  have hw := hv.1
  have hf := hv.2.1
  have w7 : k.h.w ≤ 7 := by omega
  by_cases c : (-1 : Int32) ≤ v1
  · exact Agr_r I (by unfold f_X6_whose; rw [if_pos c]; exact x_whose hL I.2.1 I.2.2.1) (by unfold f_X7_whose; rw [if_pos c]; exact y_whose hL I.2.1 hm)
  · exact Agr_ref (v := -10) 0 (by decide) I (by simp (maxDischargeDepth := 40) only [f_X6_whose, hL, gc_0, gc_1, gc_2, gc_3, gc_4, gc_5, Ly_put, kcf, kca, x_hasW _ ho hL hr w7, x_hasS _ ho hL hr hf, x_cell, x_kind, x_iscall, x_isimage, i_in, c, x_bad hL, mCp_e, mC_e, mCv_e, mZ_0, mZ_1, mZ_ifb, if_true, if_false, n10, eq_self, reduceCtorEq, Bool.false_eq_true, Nat.add_zero, Nat.reduceAdd]) (fun S1 hL1 hm1 => by simp (maxDischargeDepth := 40) only [f_X7_whose, hL1, gc_0, gc_1, gc_2, gc_3, gc_4, gc_5, Ly_put, kcf, kca, y_hasW _ hL1 hm1.2.1 w7, y_hasS _ hL1 hm1.2.1 hf, y_cell, y_iscall, i_in, c, y_bad hL1, mCp_e, mC_e, mCv_e, mZ_0, mZ_1, mZ_ifb, if_true, if_false, n10, eq_self, reduceCtorEq, Bool.false_eq_true, Nat.add_zero, Nat.reduceAdd])
