/-! the digest -/
def dg (v : Nat → Int64) (h : Int64) : Nat → Int64
  | 0 => h
  | j + 1 => 31 * dg v h j + v j
theorem dg_s (v : Nat → Int64) (h : Int64) (j : Nat) : dg v h (j + 1) = 31 * dg v h j + v j := rfl
def dh (v u : Nat → Int64) (h : Int64) : Nat → Int64
  | 0 => h
  | j + 1 => 31 * (31 * dh v u h j + v j) + u j
theorem dh_s (v u : Nat → Int64) (h : Int64) (j : Nat) : dh v u h (j + 1) = 31 * (31 * dh v u h j + v j) + u j := rfl
theorem putL2 (S : mS) (a b : Int64) : mPutL (mPutL S 83 29 a) 83 29 b = mPutL S 83 29 b := by
  unfold mPutL
  congr 2
  funext q i
  by_cases h : q = 83
  · rw [if_pos h, if_pos h]
    by_cases e : i = 29
    · rw [if_pos e, if_pos e]
    · rw [if_neg e, if_neg e]
      show (if 83 = 83 then (fun i => if i = 29 then a else S.2.2 83 i) else S.2.2 83) i = _
      rw [if_pos rfl]
      exact if_neg e
  · rw [if_neg h, if_neg h]
    show (if q = 83 then (fun i => if i = 29 then a else S.2.2 83 i) else S.2.2 q) i = _
    rw [if_neg h]
theorem y_mix {S : mS} (hL : Ly S) (h v : Int64) : f_X7_mix (nI 83) v (mPutL S 83 29 h) = some (mPutL S 83 29 (31 * h + v)) := by
  have hL1 : Ly (mPutL S 83 29 h) := Ly_putL hL
  have e : (mPutL S 83 29 h).2.2 83 29 = h := by rw [mPutL_l, if_pos ⟨rfl, rfl⟩]
  unfold f_X7_mix
  simp (maxDischargeDepth := 40) only [hL1, gc_0, gc_1, gc_2, gc_3, gc_4, gc_5, Ly_put, kcf, kca, e, putL2, mCp_e, mC_e, mCv_e, mZ_0, mZ_1, mZ_ifb, if_true, if_false, n10, eq_self, reduceCtorEq, Bool.false_eq_true, Nat.add_zero, Nat.reduceAdd]
def lv (f : Nat → Nat) (j : Nat) : Int64 := (nI (f j)).toInt64
def rv (p : RW) (w q : Nat) : Int64 := (nI (p.2 (q / w) (q % w))).toInt64
def dgK (k : KS) (n : Nat) : Int64 :=
  dg (rv k.marks 3) (dg (rv k.notes 3) (dg (rv k.seen 2) (dh (lv k.h.sk) (lv k.h.sc) (dh (lv k.h.wk) (lv k.h.wc) (dg (fun c => (howN k n c).toInt64) 1669 10) k.h.w) k.h.f) (2 * k.seen.1)) (3 * k.notes.1)) (3 * k.marks.1)
theorem x_dr7 {S : mS} {k : KS} {h : Int64} (hL : Ly S) (v : VK k) (ck : CK S 1 k) : f_X6_digestedRows h (nI 7) S = some (dg (rv k.seen 2) h (2 * k.seen.1)) := by
  have hn : S.2.1 7 3 = nI k.seen.1 := ck.2.2.1.1
  have n6 := v.2.2.2.1.1
  have e1 : S.2.1 7 1 = nI 2 := Ly_at hL 7 1 2 (by decide) (by decide) (by decide)
  obtain ⟨m, e⟩ := lup (fun n i => f_X6_digestedRows_5 (f_X6_digestedRows_52 S) S n (nI 7) (dg (rv k.seen 2) h (2 * i)) (nI i)) k.seen.1 (fun n i hi => by
    have le : (nI k.seen.1 ≤ nI i) = False := eq_false (nI_ge hi (by omega))
    show f_X6_digestedRows_5 (f_X6_digestedRows_52 S) S (n + 1) _ _ _ = _
    rw [f_X6_digestedRows_5_s]
    simp (maxDischargeDepth := 40) only [hL, gc_0, gc_1, gc_2, gc_3, gc_4, gc_5, Ly_put, kcf, kca, hn, le, mCp_e, mC_e, mCv_e, mZ_0, mZ_1, mZ_ifb, if_true, if_false, n10, eq_self, reduceCtorEq, Bool.false_eq_true, Nat.add_zero, Nat.reduceAdd]
    obtain ⟨m2, e2⟩ := lup (fun n2 c => f_X6_digestedRows_17 (f_X6_digestedRows_46 (f_X6_digestedRows_5 (f_X6_digestedRows_52 S) S n) S) S n2 (nI 7) (dg (rv k.seen 2) h (2 * i + c)) (nI i) (nI c)) 2 (fun n2 c hc => by
      have le2 : (nI 2 ≤ nI c) = False := eq_false (nI_ge hc (by decide))
      have g : S.2.1 8 (3 * i + c) = nI (k.seen.2 i c) := by have := ck.2.2.1.2 i hi c hc; rwa [Nat.zero_add] at this
      have rve : rv k.seen 2 (2 * i + c) = (nI (k.seen.2 i c)).toInt64 := by
        unfold rv
        rw [show (2 * i + c) / 2 = i by omega, show (2 * i + c) % 2 = c by omega]
      show f_X6_digestedRows_17 _ S (n2 + 1) _ _ _ _ = f_X6_digestedRows_17 _ S n2 _ (dg (rv k.seen 2) h (2 * i + c + 1)) _ _
      rw [f_X6_digestedRows_17_s, dg_s, rve]
      simp (maxDischargeDepth := 40) only [hL, gc_0, gc_1, gc_2, gc_3, gc_4, gc_5, Ly_put, kcf, kca, e1, le2, x_get7 hL hn (by omega) hi hc, g, f_X6_digested, nI_1, mCp_e, mC_e, mCv_e, mZ_0, mZ_1, mZ_ifb, if_true, if_false, n10, eq_self, reduceCtorEq, Bool.false_eq_true, Nat.add_zero, Nat.reduceAdd]) 1000 (by decide)
    refine Eq.trans e2 ?_
    rw [f_X6_digestedRows_17_s]
    simp (maxDischargeDepth := 40) only [hL, gc_0, gc_1, gc_2, gc_3, gc_4, gc_5, Ly_put, kcf, kca, e1, ng_i, f_X6_digestedRows_46, nI_1, mCp_e, mC_e, mCv_e, mZ_0, mZ_1, mZ_ifb, if_true, if_false, n10, eq_self, reduceCtorEq, Bool.false_eq_true, Nat.add_zero, Nat.reduceAdd]
    rfl) 1000 (by omega)
  unfold f_X6_digestedRows
  refine Eq.trans e ?_
  rw [f_X6_digestedRows_5_s]
  simp (maxDischargeDepth := 40) only [hL, gc_0, gc_1, gc_2, gc_3, gc_4, gc_5, Ly_put, kcf, kca, hn, ng_i, f_X6_digestedRows_52, mCp_e, mC_e, mCv_e, mZ_0, mZ_1, mZ_ifb, if_true, if_false, n10, eq_self, reduceCtorEq, Bool.false_eq_true, Nat.add_zero, Nat.reduceAdd]
theorem x_dr9 {S : mS} {k : KS} {h : Int64} (hL : Ly S) (v : VK k) (ck : CK S 1 k) : f_X6_digestedRows h (nI 9) S = some (dg (rv k.notes 3) h (3 * k.notes.1)) := by
  have hn : S.2.1 9 3 = nI k.notes.1 := ck.2.2.2.1.1
  have n6 := v.2.2.2.2.1.1
  have e1 : S.2.1 9 1 = nI 3 := Ly_at hL 9 1 3 (by decide) (by decide) (by decide)
  obtain ⟨m, e⟩ := lup (fun n i => f_X6_digestedRows_5 (f_X6_digestedRows_52 S) S n (nI 9) (dg (rv k.notes 3) h (3 * i)) (nI i)) k.notes.1 (fun n i hi => by
    have le : (nI k.notes.1 ≤ nI i) = False := eq_false (nI_ge hi (by omega))
    show f_X6_digestedRows_5 (f_X6_digestedRows_52 S) S (n + 1) _ _ _ = _
    rw [f_X6_digestedRows_5_s]
    simp (maxDischargeDepth := 40) only [hL, gc_0, gc_1, gc_2, gc_3, gc_4, gc_5, Ly_put, kcf, kca, hn, le, mCp_e, mC_e, mCv_e, mZ_0, mZ_1, mZ_ifb, if_true, if_false, n10, eq_self, reduceCtorEq, Bool.false_eq_true, Nat.add_zero, Nat.reduceAdd]
    obtain ⟨m2, e2⟩ := lup (fun n2 c => f_X6_digestedRows_17 (f_X6_digestedRows_46 (f_X6_digestedRows_5 (f_X6_digestedRows_52 S) S n) S) S n2 (nI 9) (dg (rv k.notes 3) h (3 * i + c)) (nI i) (nI c)) 3 (fun n2 c hc => by
      have le2 : (nI 3 ≤ nI c) = False := eq_false (nI_ge hc (by decide))
      have g : S.2.1 10 (3 * i + c) = nI (k.notes.2 i c) := by have := ck.2.2.2.1.2 i hi c hc; rwa [Nat.zero_add] at this
      have rve : rv k.notes 3 (3 * i + c) = (nI (k.notes.2 i c)).toInt64 := by
        unfold rv
        rw [show (3 * i + c) / 3 = i by omega, show (3 * i + c) % 3 = c by omega]
      show f_X6_digestedRows_17 _ S (n2 + 1) _ _ _ _ = f_X6_digestedRows_17 _ S n2 _ (dg (rv k.notes 3) h (3 * i + c + 1)) _ _
      rw [f_X6_digestedRows_17_s, dg_s, rve]
      simp (maxDischargeDepth := 40) only [hL, gc_0, gc_1, gc_2, gc_3, gc_4, gc_5, Ly_put, kcf, kca, e1, le2, x_get9 hL hn (by omega) hi hc, g, f_X6_digested, nI_1, mCp_e, mC_e, mCv_e, mZ_0, mZ_1, mZ_ifb, if_true, if_false, n10, eq_self, reduceCtorEq, Bool.false_eq_true, Nat.add_zero, Nat.reduceAdd]) 1000 (by decide)
    refine Eq.trans e2 ?_
    rw [f_X6_digestedRows_17_s]
    simp (maxDischargeDepth := 40) only [hL, gc_0, gc_1, gc_2, gc_3, gc_4, gc_5, Ly_put, kcf, kca, e1, ng_i, f_X6_digestedRows_46, nI_1, mCp_e, mC_e, mCv_e, mZ_0, mZ_1, mZ_ifb, if_true, if_false, n10, eq_self, reduceCtorEq, Bool.false_eq_true, Nat.add_zero, Nat.reduceAdd]
    rfl) 1000 (by omega)
  unfold f_X6_digestedRows
  refine Eq.trans e ?_
  rw [f_X6_digestedRows_5_s]
  simp (maxDischargeDepth := 40) only [hL, gc_0, gc_1, gc_2, gc_3, gc_4, gc_5, Ly_put, kcf, kca, hn, ng_i, f_X6_digestedRows_52, mCp_e, mC_e, mCv_e, mZ_0, mZ_1, mZ_ifb, if_true, if_false, n10, eq_self, reduceCtorEq, Bool.false_eq_true, Nat.add_zero, Nat.reduceAdd]
theorem x_dr11 {S : mS} {k : KS} {h : Int64} (hL : Ly S) (v : VK k) (ck : CK S 1 k) : f_X6_digestedRows h (nI 11) S = some (dg (rv k.marks 3) h (3 * k.marks.1)) := by
  have hn : S.2.1 11 3 = nI k.marks.1 := ck.2.2.2.2.1.1
  have n6 := v.2.2.2.2.2.1.1
  have e1 : S.2.1 11 1 = nI 3 := Ly_at hL 11 1 3 (by decide) (by decide) (by decide)
  obtain ⟨m, e⟩ := lup (fun n i => f_X6_digestedRows_5 (f_X6_digestedRows_52 S) S n (nI 11) (dg (rv k.marks 3) h (3 * i)) (nI i)) k.marks.1 (fun n i hi => by
    have le : (nI k.marks.1 ≤ nI i) = False := eq_false (nI_ge hi (by omega))
    show f_X6_digestedRows_5 (f_X6_digestedRows_52 S) S (n + 1) _ _ _ = _
    rw [f_X6_digestedRows_5_s]
    simp (maxDischargeDepth := 40) only [hL, gc_0, gc_1, gc_2, gc_3, gc_4, gc_5, Ly_put, kcf, kca, hn, le, mCp_e, mC_e, mCv_e, mZ_0, mZ_1, mZ_ifb, if_true, if_false, n10, eq_self, reduceCtorEq, Bool.false_eq_true, Nat.add_zero, Nat.reduceAdd]
    obtain ⟨m2, e2⟩ := lup (fun n2 c => f_X6_digestedRows_17 (f_X6_digestedRows_46 (f_X6_digestedRows_5 (f_X6_digestedRows_52 S) S n) S) S n2 (nI 11) (dg (rv k.marks 3) h (3 * i + c)) (nI i) (nI c)) 3 (fun n2 c hc => by
      have le2 : (nI 3 ≤ nI c) = False := eq_false (nI_ge hc (by decide))
      have g : S.2.1 12 (3 * i + c) = nI (k.marks.2 i c) := by have := ck.2.2.2.2.1.2 i hi c hc; rwa [Nat.zero_add] at this
      have rve : rv k.marks 3 (3 * i + c) = (nI (k.marks.2 i c)).toInt64 := by
        unfold rv
        rw [show (3 * i + c) / 3 = i by omega, show (3 * i + c) % 3 = c by omega]
      show f_X6_digestedRows_17 _ S (n2 + 1) _ _ _ _ = f_X6_digestedRows_17 _ S n2 _ (dg (rv k.marks 3) h (3 * i + c + 1)) _ _
      rw [f_X6_digestedRows_17_s, dg_s, rve]
      simp (maxDischargeDepth := 40) only [hL, gc_0, gc_1, gc_2, gc_3, gc_4, gc_5, Ly_put, kcf, kca, e1, le2, x_get11 hL hn (by omega) hi hc, g, f_X6_digested, nI_1, mCp_e, mC_e, mCv_e, mZ_0, mZ_1, mZ_ifb, if_true, if_false, n10, eq_self, reduceCtorEq, Bool.false_eq_true, Nat.add_zero, Nat.reduceAdd]) 1000 (by decide)
    refine Eq.trans e2 ?_
    rw [f_X6_digestedRows_17_s]
    simp (maxDischargeDepth := 40) only [hL, gc_0, gc_1, gc_2, gc_3, gc_4, gc_5, Ly_put, kcf, kca, e1, ng_i, f_X6_digestedRows_46, nI_1, mCp_e, mC_e, mCv_e, mZ_0, mZ_1, mZ_ifb, if_true, if_false, n10, eq_self, reduceCtorEq, Bool.false_eq_true, Nat.add_zero, Nat.reduceAdd]
    rfl) 1000 (by omega)
  unfold f_X6_digestedRows
  refine Eq.trans e ?_
  rw [f_X6_digestedRows_5_s]
  simp (maxDischargeDepth := 40) only [hL, gc_0, gc_1, gc_2, gc_3, gc_4, gc_5, Ly_put, kcf, kca, hn, ng_i, f_X6_digestedRows_52, mCp_e, mC_e, mCv_e, mZ_0, mZ_1, mZ_ifb, if_true, if_false, n10, eq_self, reduceCtorEq, Bool.false_eq_true, Nat.add_zero, Nat.reduceAdd]
theorem x_dig {S : mS} {k : KS} {n : Nat} (hL : Ly S) (v : VK k) (ck : CK S 1 k) (t3 : S.2.1 59 1 = nI n) : f_X6_digest (nI 0) S = some (31 * (31 * dgK k n + (S.2.1 0 12).toInt64) + (S.2.1 0 13).toInt64) := by
  have hr : RH S 2 k.h := ck.2.1
  have hw := v.1.1
  have hf := v.1.2.1
  have h4 : S.2.1 2 4 = nI k.h.w := hr.1
  have h5 : S.2.1 2 5 = nI k.h.f := hr.2.1
  obtain ⟨m, e⟩ := lup (fun n2 c => f_X6_digest_6 (f_X6_digest_29 S) S n2 (nI 0) (dg (fun c => (howN k n c).toInt64) 1669 c) (nI c)) 10 (fun n2 c hc => by
    have le : ((10 : Int32) ≤ nI c) = False := eq_false (nI_ge hc (by decide))
    show f_X6_digest_6 (f_X6_digest_29 S) S (n2 + 1) _ _ _ = _
    rw [f_X6_digest_6_s, dg_s]
    simp (maxDischargeDepth := 40) only [le, hL, gc_0, gc_1, gc_2, gc_3, gc_4, gc_5, Ly_put, kcf, kca, howx hL v.1 ck v.2.2.1 t3 hc, f_X6_digested, nI_1, mCp_e, mC_e, mCv_e, mZ_0, mZ_1, mZ_ifb, if_true, if_false, n10, eq_self, reduceCtorEq, Bool.false_eq_true, Nat.add_zero, Nat.reduceAdd]) 1000 (by decide)
  obtain ⟨m2, e2⟩ := lup (fun n2 c => f_X6_digest_31 (f_X6_digest_85 S) S n2 (nI 0) (dh (lv k.h.wk) (lv k.h.wc) (dg (fun c => (howN k n c).toInt64) 1669 10) c) (nI c)) k.h.w (fun n2 c hc => by
    have le : (nI k.h.w ≤ nI c) = False := eq_false (nI_ge hc (by omega))
    have c3 : c < 3 := by omega
    show f_X6_digest_31 (f_X6_digest_85 S) S (n2 + 1) _ _ _ = _
    rw [f_X6_digest_31_s, dh_s]
    simp (maxDischargeDepth := 40) only [h4, le, hL, gc_0, gc_1, gc_2, gc_3, gc_4, gc_5, Ly_put, kcf, kca, c3, (hr.2.2.2.1 c hc).1, (hr.2.2.2.1 c hc).2, f_X6_digested, nI_1, lv, mCp_e, mC_e, mCv_e, mZ_0, mZ_1, mZ_ifb, if_true, if_false, n10, eq_self, reduceCtorEq, Bool.false_eq_true, Nat.add_zero, Nat.reduceAdd]) 1000 (by omega)
  obtain ⟨m3, e3⟩ := lup (fun n2 c => f_X6_digest_87 (f_X6_digest_141 S) S n2 (nI 0) (dh (lv k.h.sk) (lv k.h.sc) (dh (lv k.h.wk) (lv k.h.wc) (dg (fun c => (howN k n c).toInt64) 1669 10) k.h.w) c) (nI c)) k.h.f (fun n2 c hc => by
    have le : (nI k.h.f ≤ nI c) = False := eq_false (nI_ge hc (by omega))
    have c7 : c < 7 := by omega
    show f_X6_digest_87 (f_X6_digest_141 S) S (n2 + 1) _ _ _ = _
    rw [f_X6_digest_87_s, dh_s]
    simp (maxDischargeDepth := 40) only [h5, le, hL, gc_0, gc_1, gc_2, gc_3, gc_4, gc_5, Ly_put, kcf, kca, c7, (hr.2.2.2.2 c hc).1, (hr.2.2.2.2 c hc).2, f_X6_digested, nI_1, lv, mCp_e, mC_e, mCv_e, mZ_0, mZ_1, mZ_ifb, if_true, if_false, n10, eq_self, reduceCtorEq, Bool.false_eq_true, Nat.add_zero, Nat.reduceAdd]) 1000 (by omega)
  unfold f_X6_digest
  refine Eq.trans e ?_
  have le : ((10 : Int32) ≤ nI 10) = True := by decide
  rw [f_X6_digest_6_s]
  simp (maxDischargeDepth := 40) only [le, f_X6_digest_29, mCp_e, mC_e, mCv_e, mZ_0, mZ_1, mZ_ifb, if_true, if_false, n10, eq_self, reduceCtorEq, Bool.false_eq_true, Nat.add_zero, Nat.reduceAdd]
  refine Eq.trans e2 ?_
  rw [f_X6_digest_31_s]
  simp (maxDischargeDepth := 40) only [h4, ng_i, hL, gc_0, gc_1, gc_2, gc_3, gc_4, gc_5, Ly_put, kcf, kca, f_X6_digest_85, mCp_e, mC_e, mCv_e, mZ_0, mZ_1, mZ_ifb, if_true, if_false, n10, eq_self, reduceCtorEq, Bool.false_eq_true, Nat.add_zero, Nat.reduceAdd]
  refine Eq.trans e3 ?_
  rw [f_X6_digest_87_s]
  simp (maxDischargeDepth := 40) only [h5, ng_i, hL, gc_0, gc_1, gc_2, gc_3, gc_4, gc_5, Ly_put, kcf, kca, f_X6_digest_141, x_dr7 hL v ck, x_dr9 hL v ck, x_dr11 hL v ck, f_X6_digested, mCp_e, mC_e, mCv_e, mZ_0, mZ_1, mZ_ifb, if_true, if_false, n10, eq_self, reduceCtorEq, Bool.false_eq_true, Nat.add_zero, Nat.reduceAdd]
  rfl
theorem y_dr109 {S : mS} {k : KS} {h : Int64} {K : Int32 → mS → Option (Int64 × mS)} (hL : Ly S) (v : VK k) (mk : MK S k) : f_X7_digest_109 K 1000 (nI 83) 0 (mPutL S 83 29 h) = K (nI 83) (mPutL S 83 29 (dg (rv k.seen 2) h (2 * k.seen.1))) := by
  have n6 := v.2.2.2.1.1
  have ew : 2 * nI k.seen.1 = nI (2 * k.seen.1) := nI_mul 2 _
  obtain ⟨m, e⟩ := lup (fun n q => f_X7_digest_109 K n (nI 83) (nI q) (mPutL S 83 29 (dg (rv k.seen 2) h q))) (2 * k.seen.1) (fun n q hq => by
    have le : (nI (2 * k.seen.1) ≤ nI q) = False := eq_false (nI_ge hq (by omega))
    have hL1 : Ly (mPutL S 83 29 (dg (rv k.seen 2) h q)) := Ly_putL hL
    have hn : (mPutL S 83 29 (dg (rv k.seen 2) h q)).2.1 83 5 = nI k.seen.1 := mk.2.2.1.1
    have bq : q < 10 := by omega
    have g : (mPutL S 83 29 (dg (rv k.seen 2) h q)).2.1 89 q = nI (k.seen.2 (q / 2) (q % 2)) := by
      have := mk.2.2.1.2 (q / 2) (by omega) (q % 2) (by omega)
      rw [Nat.zero_add, show 2 * (q / 2) + q % 2 = q by omega] at this
      exact this
    show f_X7_digest_109 K (n + 1) _ _ _ = f_X7_digest_109 K n _ (nI (q + 1)) (mPutL S 83 29 (31 * dg (rv k.seen 2) h q + rv k.seen 2 q))
    rw [f_X7_digest_109_s]
    simp (maxDischargeDepth := 40) only [hL1, gc_0, gc_1, gc_2, gc_3, gc_4, gc_5, Ly_put, kcf, kca, hn, ew, le, bq, g, y_mix hL, nI_1, rv, mCp_e, mC_e, mCv_e, mZ_0, mZ_1, mZ_ifb, if_true, if_false, n10, eq_self, reduceCtorEq, Bool.false_eq_true, Nat.add_zero, Nat.reduceAdd]) 1000 (by omega)
  refine Eq.trans e ?_
  have hL1 : Ly (mPutL S 83 29 (dg (rv k.seen 2) h (2 * k.seen.1))) := Ly_putL hL
  have hn : (mPutL S 83 29 (dg (rv k.seen 2) h (2 * k.seen.1))).2.1 83 5 = nI k.seen.1 := mk.2.2.1.1
  rw [f_X7_digest_109_s]
  simp (maxDischargeDepth := 40) only [hL1, gc_0, gc_1, gc_2, gc_3, gc_4, gc_5, Ly_put, kcf, kca, hn, ew, ng_i, mCp_e, mC_e, mCv_e, mZ_0, mZ_1, mZ_ifb, if_true, if_false, n10, eq_self, reduceCtorEq, Bool.false_eq_true, Nat.add_zero, Nat.reduceAdd]
theorem y_dr138 {S : mS} {k : KS} {h : Int64} {K : Int32 → mS → Option (Int64 × mS)} (hL : Ly S) (v : VK k) (mk : MK S k) : f_X7_digest_138 K 1000 (nI 83) 0 (mPutL S 83 29 h) = K (nI 83) (mPutL S 83 29 (dg (rv k.notes 3) h (3 * k.notes.1))) := by
  have n6 := v.2.2.2.2.1.1
  have ew : 3 * nI k.notes.1 = nI (3 * k.notes.1) := nI_mul 3 _
  obtain ⟨m, e⟩ := lup (fun n q => f_X7_digest_138 K n (nI 83) (nI q) (mPutL S 83 29 (dg (rv k.notes 3) h q))) (3 * k.notes.1) (fun n q hq => by
    have le : (nI (3 * k.notes.1) ≤ nI q) = False := eq_false (nI_ge hq (by omega))
    have hL1 : Ly (mPutL S 83 29 (dg (rv k.notes 3) h q)) := Ly_putL hL
    have hn : (mPutL S 83 29 (dg (rv k.notes 3) h q)).2.1 83 6 = nI k.notes.1 := mk.2.2.2.1.1
    have bq : q < 18 := by omega
    have g : (mPutL S 83 29 (dg (rv k.notes 3) h q)).2.1 90 q = nI (k.notes.2 (q / 3) (q % 3)) := by
      have := mk.2.2.2.1.2 (q / 3) (by omega) (q % 3) (by omega)
      rw [Nat.zero_add, show 3 * (q / 3) + q % 3 = q by omega] at this
      exact this
    show f_X7_digest_138 K (n + 1) _ _ _ = f_X7_digest_138 K n _ (nI (q + 1)) (mPutL S 83 29 (31 * dg (rv k.notes 3) h q + rv k.notes 3 q))
    rw [f_X7_digest_138_s]
    simp (maxDischargeDepth := 40) only [hL1, gc_0, gc_1, gc_2, gc_3, gc_4, gc_5, Ly_put, kcf, kca, hn, ew, le, bq, g, y_mix hL, nI_1, rv, mCp_e, mC_e, mCv_e, mZ_0, mZ_1, mZ_ifb, if_true, if_false, n10, eq_self, reduceCtorEq, Bool.false_eq_true, Nat.add_zero, Nat.reduceAdd]) 1000 (by omega)
  refine Eq.trans e ?_
  have hL1 : Ly (mPutL S 83 29 (dg (rv k.notes 3) h (3 * k.notes.1))) := Ly_putL hL
  have hn : (mPutL S 83 29 (dg (rv k.notes 3) h (3 * k.notes.1))).2.1 83 6 = nI k.notes.1 := mk.2.2.2.1.1
  rw [f_X7_digest_138_s]
  simp (maxDischargeDepth := 40) only [hL1, gc_0, gc_1, gc_2, gc_3, gc_4, gc_5, Ly_put, kcf, kca, hn, ew, ng_i, mCp_e, mC_e, mCv_e, mZ_0, mZ_1, mZ_ifb, if_true, if_false, n10, eq_self, reduceCtorEq, Bool.false_eq_true, Nat.add_zero, Nat.reduceAdd]
theorem y_dr167 {S : mS} {k : KS} {h : Int64} {K : Int32 → mS → Option (Int64 × mS)} (hL : Ly S) (v : VK k) (mk : MK S k) : f_X7_digest_167 K 1000 (nI 83) 0 (mPutL S 83 29 h) = K (nI 83) (mPutL S 83 29 (dg (rv k.marks 3) h (3 * k.marks.1))) := by
  have n6 := v.2.2.2.2.2.1.1
  have ew : 3 * nI k.marks.1 = nI (3 * k.marks.1) := nI_mul 3 _
  obtain ⟨m, e⟩ := lup (fun n q => f_X7_digest_167 K n (nI 83) (nI q) (mPutL S 83 29 (dg (rv k.marks 3) h q))) (3 * k.marks.1) (fun n q hq => by
    have le : (nI (3 * k.marks.1) ≤ nI q) = False := eq_false (nI_ge hq (by omega))
    have hL1 : Ly (mPutL S 83 29 (dg (rv k.marks 3) h q)) := Ly_putL hL
    have hn : (mPutL S 83 29 (dg (rv k.marks 3) h q)).2.1 83 7 = nI k.marks.1 := mk.2.2.2.2.1.1
    have bq : q < 18 := by omega
    have g : (mPutL S 83 29 (dg (rv k.marks 3) h q)).2.1 91 q = nI (k.marks.2 (q / 3) (q % 3)) := by
      have := mk.2.2.2.2.1.2 (q / 3) (by omega) (q % 3) (by omega)
      rw [Nat.zero_add, show 3 * (q / 3) + q % 3 = q by omega] at this
      exact this
    show f_X7_digest_167 K (n + 1) _ _ _ = f_X7_digest_167 K n _ (nI (q + 1)) (mPutL S 83 29 (31 * dg (rv k.marks 3) h q + rv k.marks 3 q))
    rw [f_X7_digest_167_s]
    simp (maxDischargeDepth := 40) only [hL1, gc_0, gc_1, gc_2, gc_3, gc_4, gc_5, Ly_put, kcf, kca, hn, ew, le, bq, g, y_mix hL, nI_1, rv, mCp_e, mC_e, mCv_e, mZ_0, mZ_1, mZ_ifb, if_true, if_false, n10, eq_self, reduceCtorEq, Bool.false_eq_true, Nat.add_zero, Nat.reduceAdd]) 1000 (by omega)
  refine Eq.trans e ?_
  have hL1 : Ly (mPutL S 83 29 (dg (rv k.marks 3) h (3 * k.marks.1))) := Ly_putL hL
  have hn : (mPutL S 83 29 (dg (rv k.marks 3) h (3 * k.marks.1))).2.1 83 7 = nI k.marks.1 := mk.2.2.2.2.1.1
  rw [f_X7_digest_167_s]
  simp (maxDischargeDepth := 40) only [hL1, gc_0, gc_1, gc_2, gc_3, gc_4, gc_5, Ly_put, kcf, kca, hn, ew, ng_i, mCp_e, mC_e, mCv_e, mZ_0, mZ_1, mZ_ifb, if_true, if_false, n10, eq_self, reduceCtorEq, Bool.false_eq_true, Nat.add_zero, Nat.reduceAdd]
theorem y_dh33 {S : mS} {k : KS} {h : Int64} {K : Int32 → mS → Option (Int64 × mS)} (hL : Ly S) (v : VK k) (hr : RM S k.h) : f_X7_digest_33 K 1000 (nI 83) 0 (mPutL S 83 29 h) = K (nI 83) (mPutL S 83 29 (dh (lv k.h.wk) (lv k.h.wc) h k.h.w)) := by
  have hw := v.1.1
  have hf := v.1.2.1
  obtain ⟨m, e⟩ := lup (fun n q => f_X7_digest_33 K n (nI 83) (nI q) (mPutL S 83 29 (dh (lv k.h.wk) (lv k.h.wc) h q))) k.h.w (fun n q hq => by
    have le : (nI k.h.w ≤ nI q) = False := eq_false (nI_ge hq (by omega))
    have hL1 : ∀ x, Ly (mPutL S 83 29 x) := fun x => Ly_putL hL
    have hn : ∀ x, (mPutL S 83 29 x).2.1 83 1 = nI k.h.w := fun x => hr.1
    have bq : q < 3 := by omega
    have g1 : ∀ x, (mPutL S 83 29 x).2.1 85 q = nI (k.h.wk q) := fun x => (hr.2.2.2.1 q hq).1
    have g2 : ∀ x, (mPutL S 83 29 x).2.1 86 q = nI (k.h.wc q) := fun x => (hr.2.2.2.1 q hq).2
    show f_X7_digest_33 K (n + 1) _ _ _ = _
    rw [f_X7_digest_33_s, dh_s]
    simp (maxDischargeDepth := 40) only [hL1, gc_0, gc_1, gc_2, gc_3, gc_4, gc_5, Ly_put, kcf, kca, hn, le, bq, g1, g2, y_mix hL, nI_1, lv, mCp_e, mC_e, mCv_e, mZ_0, mZ_1, mZ_ifb, if_true, if_false, n10, eq_self, reduceCtorEq, Bool.false_eq_true, Nat.add_zero, Nat.reduceAdd]) 1000 (by omega)
  refine Eq.trans e ?_
  have hL1 : ∀ x, Ly (mPutL S 83 29 x) := fun x => Ly_putL hL
  have hn : ∀ x, (mPutL S 83 29 x).2.1 83 1 = nI k.h.w := fun x => hr.1
  rw [f_X7_digest_33_s]
  simp (maxDischargeDepth := 40) only [hL1, gc_0, gc_1, gc_2, gc_3, gc_4, gc_5, Ly_put, kcf, kca, hn, ng_i, mCp_e, mC_e, mCv_e, mZ_0, mZ_1, mZ_ifb, if_true, if_false, n10, eq_self, reduceCtorEq, Bool.false_eq_true, Nat.add_zero, Nat.reduceAdd]
theorem y_dh71 {S : mS} {k : KS} {h : Int64} {K : Int32 → mS → Option (Int64 × mS)} (hL : Ly S) (v : VK k) (hr : RM S k.h) : f_X7_digest_71 K 1000 (nI 83) 0 (mPutL S 83 29 h) = K (nI 83) (mPutL S 83 29 (dh (lv k.h.sk) (lv k.h.sc) h k.h.f)) := by
  have hw := v.1.1
  have hf := v.1.2.1
  obtain ⟨m, e⟩ := lup (fun n q => f_X7_digest_71 K n (nI 83) (nI q) (mPutL S 83 29 (dh (lv k.h.sk) (lv k.h.sc) h q))) k.h.f (fun n q hq => by
    have le : (nI k.h.f ≤ nI q) = False := eq_false (nI_ge hq (by omega))
    have hL1 : ∀ x, Ly (mPutL S 83 29 x) := fun x => Ly_putL hL
    have hn : ∀ x, (mPutL S 83 29 x).2.1 83 2 = nI k.h.f := fun x => hr.2.1
    have bq : q < 7 := by omega
    have g1 : ∀ x, (mPutL S 83 29 x).2.1 87 q = nI (k.h.sk q) := fun x => (hr.2.2.2.2 q hq).1
    have g2 : ∀ x, (mPutL S 83 29 x).2.1 88 q = nI (k.h.sc q) := fun x => (hr.2.2.2.2 q hq).2
    show f_X7_digest_71 K (n + 1) _ _ _ = _
    rw [f_X7_digest_71_s, dh_s]
    simp (maxDischargeDepth := 40) only [hL1, gc_0, gc_1, gc_2, gc_3, gc_4, gc_5, Ly_put, kcf, kca, hn, le, bq, g1, g2, y_mix hL, nI_1, lv, mCp_e, mC_e, mCv_e, mZ_0, mZ_1, mZ_ifb, if_true, if_false, n10, eq_self, reduceCtorEq, Bool.false_eq_true, Nat.add_zero, Nat.reduceAdd]) 1000 (by omega)
  refine Eq.trans e ?_
  have hL1 : ∀ x, Ly (mPutL S 83 29 x) := fun x => Ly_putL hL
  have hn : ∀ x, (mPutL S 83 29 x).2.1 83 2 = nI k.h.f := fun x => hr.2.1
  rw [f_X7_digest_71_s]
  simp (maxDischargeDepth := 40) only [hL1, gc_0, gc_1, gc_2, gc_3, gc_4, gc_5, Ly_put, kcf, kca, hn, ng_i, mCp_e, mC_e, mCv_e, mZ_0, mZ_1, mZ_ifb, if_true, if_false, n10, eq_self, reduceCtorEq, Bool.false_eq_true, Nat.add_zero, Nat.reduceAdd]
theorem y_dig {S : mS} {k : KS} {n : Nat} (hL : Ly S) (v : VK k) (mk : MK S k) (t4 : S.2.1 83 16 = nI n) : ∃ h, f_X7_digest (nI 83) S = some (31 * (31 * dgK k n + S.2.2 83 25) + S.2.2 83 26, mPutL S 83 29 h) := by
  have hr : RM S k.h := mk.2.1
  have hL1 : ∀ x, Ly (mPutL S 83 29 x) := fun x => Ly_putL hL
  obtain ⟨m, e⟩ := lup (fun n2 c => f_X7_digest_9 f_X7_digest_31 n2 (nI 83) (nI c) (mPutL S 83 29 (dg (fun c => (howN k n c).toInt64) 1669 c))) 10 (fun n2 c hc => by
    have le : ((9 : Int32) < nI c) = False := eq_false (nI_nlt (a := 9) (b := c) (by omega) (by decide))
    have hw := howy (S := mPutL S 83 29 (dg (fun c => (howN k n c).toInt64) 1669 c)) (hL1 _) v.1 mk v.2.2.1 t4 hc
    show f_X7_digest_9 f_X7_digest_31 (n2 + 1) _ _ _ = _
    rw [f_X7_digest_9_s, dg_s]
    simp (maxDischargeDepth := 40) only [le, hL1, gc_0, gc_1, gc_2, gc_3, gc_4, gc_5, Ly_put, kcf, kca, hw, y_mix hL, nI_1, mCp_e, mC_e, mCv_e, mZ_0, mZ_1, mZ_ifb, if_true, if_false, n10, eq_self, reduceCtorEq, Bool.false_eq_true, Nat.add_zero, Nat.reduceAdd]) 1000 (by decide)
  have r25 : ∀ x, (mPutL S 83 29 x).2.2 83 25 = S.2.2 83 25 := fun x => by rw [mPutL_l, if_neg (by decide)]
  have r26 : ∀ x, (mPutL S 83 29 x).2.2 83 26 = S.2.2 83 26 := fun x => by rw [mPutL_l, if_neg (by decide)]
  have r29 : ∀ x, (mPutL S 83 29 x).2.2 83 29 = x := fun x => by rw [mPutL_l, if_pos ⟨rfl, rfl⟩]
  refine ⟨31 * (31 * dgK k n + S.2.2 83 25) + S.2.2 83 26, ?_⟩
  unfold f_X7_digest
  simp (maxDischargeDepth := 40) only [hL, gc_0, gc_1, gc_2, gc_3, gc_4, gc_5, Ly_put, kcf, kca, mCp_e, mC_e, mCv_e, mZ_0, mZ_1, mZ_ifb, if_true, if_false, n10, eq_self, reduceCtorEq, Bool.false_eq_true, Nat.add_zero, Nat.reduceAdd]
  refine Eq.trans e ?_
  have le : ((9 : Int32) < nI 10) = True := by decide
  rw [f_X7_digest_9_s]
  simp (maxDischargeDepth := 40) only [le, f_X7_digest_31, y_dh33 hL v hr, f_X7_digest_69, y_dh71 hL v hr, f_X7_digest_107, y_dr109 hL v mk, f_X7_digest_136, y_dr138 hL v mk, f_X7_digest_165, y_dr167 hL v mk, f_X7_digest_194, hL1, gc_0, gc_1, gc_2, gc_3, gc_4, gc_5, Ly_put, kcf, kca, r25, r26, r29, y_mix hL, mCp_e, mC_e, mCv_e, mZ_0, mZ_1, mZ_ifb, if_true, if_false, n10, eq_self, reduceCtorEq, Bool.false_eq_true, Nat.add_zero, Nat.reduceAdd]
  rfl
theorem o_digest {S : mS} (H : Inv S) : ∃ r S2, f_X6_digest (nI 0) S = some r ∧ f_X7_digest (nI 83) S = some (r, S2) ∧ Inv S2 := by
  obtain ⟨k, I⟩ := Inv_k H
  have hL := I.1
  have hv : VH k.h := I.2.1.1
  have hr : RH S 2 k.h := I.2.2.1.2.1
  have hm : MK S k := I.2.2.2.1
  have hq : RM S k.h := hm.2.1
  have ho : HO 2 := Or.inl rfl
  have hw := hv.1
  have hf := hv.2.1
  have w7 : k.h.w ≤ 7 := by omega
  have I' := I
  obtain ⟨⟨n, b, t1, t2, t3, t4, t5⟩, ⟨f1, f2⟩, -, -, -⟩ := I'.2.2.2.2
  obtain ⟨h, e⟩ := y_dig hL I.2.1 hm t4
  rw [f1, f2] at e
  exact ⟨_, _, x_dig hL I.2.1 I.2.2.1 t3, e, Ly_putL hL, ⟨k, I.2.1, CK_TM TM_putL I.2.2.1, hm⟩, Rest_TM TM_putL I.2.2.2.2⟩
