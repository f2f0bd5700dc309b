theorem c10 {c : Nat} (h : c < 10) : c = 0 ∨ c = 1 ∨ c = 2 ∨ c = 3 ∨ c = 4 ∨ c = 5 ∨ c = 6 ∨ c = 7 ∨ c = 8 ∨ c = 9 := by omega
theorem ntab : (nI 0 = 0) = True ∧ (nI 0 = 1) = False ∧ (nI 0 = 2) = False ∧ (nI 0 = 3) = False ∧ (nI 0 = 4) = False ∧ (nI 0 = 5) = False ∧ (nI 0 = 6) = False ∧ (nI 0 = 7) = False ∧ (nI 0 = 8) = False ∧ (nI 0 = 9) = False ∧ (nI 1 = 0) = False ∧ (nI 1 = 1) = True ∧ (nI 1 = 2) = False ∧ (nI 1 = 3) = False ∧ (nI 1 = 4) = False ∧ (nI 1 = 5) = False ∧ (nI 1 = 6) = False ∧ (nI 1 = 7) = False ∧ (nI 1 = 8) = False ∧ (nI 1 = 9) = False ∧ (nI 2 = 0) = False ∧ (nI 2 = 1) = False ∧ (nI 2 = 2) = True ∧ (nI 2 = 3) = False ∧ (nI 2 = 4) = False ∧ (nI 2 = 5) = False ∧ (nI 2 = 6) = False ∧ (nI 2 = 7) = False ∧ (nI 2 = 8) = False ∧ (nI 2 = 9) = False ∧ (nI 3 = 0) = False ∧ (nI 3 = 1) = False ∧ (nI 3 = 2) = False ∧ (nI 3 = 3) = True ∧ (nI 3 = 4) = False ∧ (nI 3 = 5) = False ∧ (nI 3 = 6) = False ∧ (nI 3 = 7) = False ∧ (nI 3 = 8) = False ∧ (nI 3 = 9) = False ∧ (nI 4 = 0) = False ∧ (nI 4 = 1) = False ∧ (nI 4 = 2) = False ∧ (nI 4 = 3) = False ∧ (nI 4 = 4) = True ∧ (nI 4 = 5) = False ∧ (nI 4 = 6) = False ∧ (nI 4 = 7) = False ∧ (nI 4 = 8) = False ∧ (nI 4 = 9) = False ∧ (nI 5 = 0) = False ∧ (nI 5 = 1) = False ∧ (nI 5 = 2) = False ∧ (nI 5 = 3) = False ∧ (nI 5 = 4) = False ∧ (nI 5 = 5) = True ∧ (nI 5 = 6) = False ∧ (nI 5 = 7) = False ∧ (nI 5 = 8) = False ∧ (nI 5 = 9) = False ∧ (nI 6 = 0) = False ∧ (nI 6 = 1) = False ∧ (nI 6 = 2) = False ∧ (nI 6 = 3) = False ∧ (nI 6 = 4) = False ∧ (nI 6 = 5) = False ∧ (nI 6 = 6) = True ∧ (nI 6 = 7) = False ∧ (nI 6 = 8) = False ∧ (nI 6 = 9) = False ∧ (nI 7 = 0) = False ∧ (nI 7 = 1) = False ∧ (nI 7 = 2) = False ∧ (nI 7 = 3) = False ∧ (nI 7 = 4) = False ∧ (nI 7 = 5) = False ∧ (nI 7 = 6) = False ∧ (nI 7 = 7) = True ∧ (nI 7 = 8) = False ∧ (nI 7 = 9) = False ∧ (nI 8 = 0) = False ∧ (nI 8 = 1) = False ∧ (nI 8 = 2) = False ∧ (nI 8 = 3) = False ∧ (nI 8 = 4) = False ∧ (nI 8 = 5) = False ∧ (nI 8 = 6) = False ∧ (nI 8 = 7) = False ∧ (nI 8 = 8) = True ∧ (nI 8 = 9) = False ∧ (nI 9 = 0) = False ∧ (nI 9 = 1) = False ∧ (nI 9 = 2) = False ∧ (nI 9 = 3) = False ∧ (nI 9 = 4) = False ∧ (nI 9 = 5) = False ∧ (nI 9 = 6) = False ∧ (nI 9 = 7) = False ∧ (nI 9 = 8) = False ∧ (nI 9 = 9) = True := ⟨by decide, by decide, by decide, by decide, by decide, by decide, by decide, by decide, by decide, by decide, by decide, by decide, by decide, by decide, by decide, by decide, by decide, by decide, by decide, by decide, by decide, by decide, by decide, by decide, by decide, by decide, by decide, by decide, by decide, by decide, by decide, by decide, by decide, by decide, by decide, by decide, by decide, by decide, by decide, by decide, by decide, by decide, by decide, by decide, by decide, by decide, by decide, by decide, by decide, by decide, by decide, by decide, by decide, by decide, by decide, by decide, by decide, by decide, by decide, by decide, by decide, by decide, by decide, by decide, by decide, by decide, by decide, by decide, by decide, by decide, by decide, by decide, by decide, by decide, by decide, by decide, by decide, by decide, by decide, by decide, by decide, by decide, by decide, by decide, by decide, by decide, by decide, by decide, by decide, by decide, by decide, by decide, by decide, by decide, by decide, by decide, by decide, by decide, by decide, by decide⟩
/-- the ten counts, of both -/
def howN (k : KS) (n c : Nat) : Int32 := if c = 0 then nI k.h.f else if c = 1 then nI k.h.w else if c = 2 then nI k.h.t else if c = 3 then nI k.fold else if c = 4 then nI (cnt (inC k.h k.fold) k.h.f) else if c = 5 then nI k.seen.1 else if c = 6 then nI k.notes.1 else if c = 7 then nI k.marks.1 else if c = 8 then nI k.past.1 else nI n
theorem howx {S : mS} {k : KS} {n c : Nat} (hL : Ly S) (hv : VH k.h) (ck : CK S 1 k) (hF : k.fold < 25) (t3 : S.2.1 59 1 = nI n) (hc : c < 10) : f_X6_howMany (nI 0) (nI c) S = some (howN k n c) := by
  have ho : HO 2 := Or.inl rfl
  have hr : RH S 2 k.h := ck.2.1
  have h1 : S.2.1 2 5 = nI k.h.f := hr.2.1
  have h2 : S.2.1 2 4 = nI k.h.w := hr.1
  have h3 : S.2.1 2 6 = nI k.h.t := hr.2.2.1
  have h5 : S.2.1 7 3 = nI k.seen.1 := ck.2.2.1.1
  have h6 : S.2.1 9 3 = nI k.notes.1 := ck.2.2.2.1.1
  have h7 : S.2.1 11 3 = nI k.marks.1 := ck.2.2.2.2.1.1
  have h8 : S.2.1 13 1 = nI k.past.1 := ck.2.2.2.2.2.1
  rcases c10 hc with rfl | rfl | rfl | rfl | rfl | rfl | rfl | rfl | rfl | rfl
  · simp (maxDischargeDepth := 40) only [f_X6_howMany, ntab, hL, gc_0, gc_1, gc_2, gc_3, gc_4, gc_5, Ly_put, kcf, kca, h1, h2, h3, h5, h6, h7, h8, ck.1, t3, x_mIn ho hL hr hv hF, mCp_e, mC_e, mCv_e, mZ_0, mZ_1, mZ_ifb, if_true, if_false, n10, eq_self, reduceCtorEq, Bool.false_eq_true, Nat.add_zero, Nat.reduceAdd]
    rfl
  · simp (maxDischargeDepth := 40) only [f_X6_howMany, ntab, hL, gc_0, gc_1, gc_2, gc_3, gc_4, gc_5, Ly_put, kcf, kca, h1, h2, h3, h5, h6, h7, h8, ck.1, t3, x_mIn ho hL hr hv hF, mCp_e, mC_e, mCv_e, mZ_0, mZ_1, mZ_ifb, if_true, if_false, n10, eq_self, reduceCtorEq, Bool.false_eq_true, Nat.add_zero, Nat.reduceAdd]
    rfl
  · simp (maxDischargeDepth := 40) only [f_X6_howMany, ntab, hL, gc_0, gc_1, gc_2, gc_3, gc_4, gc_5, Ly_put, kcf, kca, h1, h2, h3, h5, h6, h7, h8, ck.1, t3, x_mIn ho hL hr hv hF, mCp_e, mC_e, mCv_e, mZ_0, mZ_1, mZ_ifb, if_true, if_false, n10, eq_self, reduceCtorEq, Bool.false_eq_true, Nat.add_zero, Nat.reduceAdd]
    rfl
  · simp (maxDischargeDepth := 40) only [f_X6_howMany, ntab, hL, gc_0, gc_1, gc_2, gc_3, gc_4, gc_5, Ly_put, kcf, kca, h1, h2, h3, h5, h6, h7, h8, ck.1, t3, x_mIn ho hL hr hv hF, mCp_e, mC_e, mCv_e, mZ_0, mZ_1, mZ_ifb, if_true, if_false, n10, eq_self, reduceCtorEq, Bool.false_eq_true, Nat.add_zero, Nat.reduceAdd]
    rfl
  · simp (maxDischargeDepth := 40) only [f_X6_howMany, ntab, hL, gc_0, gc_1, gc_2, gc_3, gc_4, gc_5, Ly_put, kcf, kca, h1, h2, h3, h5, h6, h7, h8, ck.1, t3, x_mIn ho hL hr hv hF, mCp_e, mC_e, mCv_e, mZ_0, mZ_1, mZ_ifb, if_true, if_false, n10, eq_self, reduceCtorEq, Bool.false_eq_true, Nat.add_zero, Nat.reduceAdd]
    rfl
  · simp (maxDischargeDepth := 40) only [f_X6_howMany, ntab, hL, gc_0, gc_1, gc_2, gc_3, gc_4, gc_5, Ly_put, kcf, kca, h1, h2, h3, h5, h6, h7, h8, ck.1, t3, x_mIn ho hL hr hv hF, mCp_e, mC_e, mCv_e, mZ_0, mZ_1, mZ_ifb, if_true, if_false, n10, eq_self, reduceCtorEq, Bool.false_eq_true, Nat.add_zero, Nat.reduceAdd]
    rfl
  · simp (maxDischargeDepth := 40) only [f_X6_howMany, ntab, hL, gc_0, gc_1, gc_2, gc_3, gc_4, gc_5, Ly_put, kcf, kca, h1, h2, h3, h5, h6, h7, h8, ck.1, t3, x_mIn ho hL hr hv hF, mCp_e, mC_e, mCv_e, mZ_0, mZ_1, mZ_ifb, if_true, if_false, n10, eq_self, reduceCtorEq, Bool.false_eq_true, Nat.add_zero, Nat.reduceAdd]
    rfl
  · simp (maxDischargeDepth := 40) only [f_X6_howMany, ntab, hL, gc_0, gc_1, gc_2, gc_3, gc_4, gc_5, Ly_put, kcf, kca, h1, h2, h3, h5, h6, h7, h8, ck.1, t3, x_mIn ho hL hr hv hF, mCp_e, mC_e, mCv_e, mZ_0, mZ_1, mZ_ifb, if_true, if_false, n10, eq_self, reduceCtorEq, Bool.false_eq_true, Nat.add_zero, Nat.reduceAdd]
    rfl
  · simp (maxDischargeDepth := 40) only [f_X6_howMany, ntab, hL, gc_0, gc_1, gc_2, gc_3, gc_4, gc_5, Ly_put, kcf, kca, h1, h2, h3, h5, h6, h7, h8, ck.1, t3, x_mIn ho hL hr hv hF, mCp_e, mC_e, mCv_e, mZ_0, mZ_1, mZ_ifb, if_true, if_false, n10, eq_self, reduceCtorEq, Bool.false_eq_true, Nat.add_zero, Nat.reduceAdd]
    rfl
  · simp (maxDischargeDepth := 40) only [f_X6_howMany, ntab, hL, gc_0, gc_1, gc_2, gc_3, gc_4, gc_5, Ly_put, kcf, kca, h1, h2, h3, h5, h6, h7, h8, ck.1, t3, x_mIn ho hL hr hv hF, mCp_e, mC_e, mCv_e, mZ_0, mZ_1, mZ_ifb, if_true, if_false, n10, eq_self, reduceCtorEq, Bool.false_eq_true, Nat.add_zero, Nat.reduceAdd]
    rfl
theorem howy {S : mS} {k : KS} {n c : Nat} (hL : Ly S) (hv : VH k.h) (mk : MK S k) (hF : k.fold < 25) (t4 : S.2.1 83 16 = nI n) (hc : c < 10) : f_X7_countOf (nI 83) (nI c) S = some (howN k n c) := by
  have hr : RM S k.h := mk.2.1
  have h1 : S.2.1 83 2 = nI k.h.f := hr.2.1
  have h2 : S.2.1 83 1 = nI k.h.w := hr.1
  have h3 : S.2.1 83 4 = nI k.h.t := hr.2.2.1
  have h5 : S.2.1 83 5 = nI k.seen.1 := mk.2.2.1.1
  have h6 : S.2.1 83 6 = nI k.notes.1 := mk.2.2.2.1.1
  have h7 : S.2.1 83 7 = nI k.marks.1 := mk.2.2.2.2.1.1
  have h8 : S.2.1 83 21 = nI k.past.1 := mk.2.2.2.2.2.1
  rcases c10 hc with rfl | rfl | rfl | rfl | rfl | rfl | rfl | rfl | rfl | rfl
  · simp (maxDischargeDepth := 40) only [f_X7_countOf, ntab, hL, gc_0, gc_1, gc_2, gc_3, gc_4, gc_5, Ly_put, kcf, kca, h1, h2, h3, h5, h6, h7, h8, mk.1, t4, y_fMany hL hr hv mk.1 hF, mCp_e, mC_e, mCv_e, mZ_0, mZ_1, mZ_ifb, if_true, if_false, n10, eq_self, reduceCtorEq, Bool.false_eq_true, Nat.add_zero, Nat.reduceAdd]
    rfl
  · simp (maxDischargeDepth := 40) only [f_X7_countOf, ntab, hL, gc_0, gc_1, gc_2, gc_3, gc_4, gc_5, Ly_put, kcf, kca, h1, h2, h3, h5, h6, h7, h8, mk.1, t4, y_fMany hL hr hv mk.1 hF, mCp_e, mC_e, mCv_e, mZ_0, mZ_1, mZ_ifb, if_true, if_false, n10, eq_self, reduceCtorEq, Bool.false_eq_true, Nat.add_zero, Nat.reduceAdd]
    rfl
  · simp (maxDischargeDepth := 40) only [f_X7_countOf, ntab, hL, gc_0, gc_1, gc_2, gc_3, gc_4, gc_5, Ly_put, kcf, kca, h1, h2, h3, h5, h6, h7, h8, mk.1, t4, y_fMany hL hr hv mk.1 hF, mCp_e, mC_e, mCv_e, mZ_0, mZ_1, mZ_ifb, if_true, if_false, n10, eq_self, reduceCtorEq, Bool.false_eq_true, Nat.add_zero, Nat.reduceAdd]
    rfl
  · simp (maxDischargeDepth := 40) only [f_X7_countOf, ntab, hL, gc_0, gc_1, gc_2, gc_3, gc_4, gc_5, Ly_put, kcf, kca, h1, h2, h3, h5, h6, h7, h8, mk.1, t4, y_fMany hL hr hv mk.1 hF, mCp_e, mC_e, mCv_e, mZ_0, mZ_1, mZ_ifb, if_true, if_false, n10, eq_self, reduceCtorEq, Bool.false_eq_true, Nat.add_zero, Nat.reduceAdd]
    rfl
  · simp (maxDischargeDepth := 40) only [f_X7_countOf, ntab, hL, gc_0, gc_1, gc_2, gc_3, gc_4, gc_5, Ly_put, kcf, kca, h1, h2, h3, h5, h6, h7, h8, mk.1, t4, y_fMany hL hr hv mk.1 hF, mCp_e, mC_e, mCv_e, mZ_0, mZ_1, mZ_ifb, if_true, if_false, n10, eq_self, reduceCtorEq, Bool.false_eq_true, Nat.add_zero, Nat.reduceAdd]
    rfl
  · simp (maxDischargeDepth := 40) only [f_X7_countOf, ntab, hL, gc_0, gc_1, gc_2, gc_3, gc_4, gc_5, Ly_put, kcf, kca, h1, h2, h3, h5, h6, h7, h8, mk.1, t4, y_fMany hL hr hv mk.1 hF, mCp_e, mC_e, mCv_e, mZ_0, mZ_1, mZ_ifb, if_true, if_false, n10, eq_self, reduceCtorEq, Bool.false_eq_true, Nat.add_zero, Nat.reduceAdd]
    rfl
  · simp (maxDischargeDepth := 40) only [f_X7_countOf, ntab, hL, gc_0, gc_1, gc_2, gc_3, gc_4, gc_5, Ly_put, kcf, kca, h1, h2, h3, h5, h6, h7, h8, mk.1, t4, y_fMany hL hr hv mk.1 hF, mCp_e, mC_e, mCv_e, mZ_0, mZ_1, mZ_ifb, if_true, if_false, n10, eq_self, reduceCtorEq, Bool.false_eq_true, Nat.add_zero, Nat.reduceAdd]
    rfl
  · simp (maxDischargeDepth := 40) only [f_X7_countOf, ntab, hL, gc_0, gc_1, gc_2, gc_3, gc_4, gc_5, Ly_put, kcf, kca, h1, h2, h3, h5, h6, h7, h8, mk.1, t4, y_fMany hL hr hv mk.1 hF, mCp_e, mC_e, mCv_e, mZ_0, mZ_1, mZ_ifb, if_true, if_false, n10, eq_self, reduceCtorEq, Bool.false_eq_true, Nat.add_zero, Nat.reduceAdd]
    rfl
  · simp (maxDischargeDepth := 40) only [f_X7_countOf, ntab, hL, gc_0, gc_1, gc_2, gc_3, gc_4, gc_5, Ly_put, kcf, kca, h1, h2, h3, h5, h6, h7, h8, mk.1, t4, y_fMany hL hr hv mk.1 hF, mCp_e, mC_e, mCv_e, mZ_0, mZ_1, mZ_ifb, if_true, if_false, n10, eq_self, reduceCtorEq, Bool.false_eq_true, Nat.add_zero, Nat.reduceAdd]
    rfl
  · simp (maxDischargeDepth := 40) only [f_X7_countOf, ntab, hL, gc_0, gc_1, gc_2, gc_3, gc_4, gc_5, Ly_put, kcf, kca, h1, h2, h3, h5, h6, h7, h8, mk.1, t4, y_fMany hL hr hv mk.1 hF, mCp_e, mC_e, mCv_e, mZ_0, mZ_1, mZ_ifb, if_true, if_false, n10, eq_self, reduceCtorEq, Bool.false_eq_true, Nat.add_zero, Nat.reduceAdd]
    rfl
theorem howm {S : mS} {k : KS} {n c o : Nat} (_ : HO o) (hL : Ly S) (hv : VH k.h) (ck : CK S 1 k) (mk : MK S k) (hF : k.fold < 25) (t3 : S.2.1 59 1 = nI n) (t4 : S.2.1 83 16 = nI n) (hc : c < 10) : ∃ r, f_X6_howMany (nI 0) (nI c) S = some r ∧ f_X7_countOf (nI 83) (nI c) S = some r := ⟨howN k n c, howx hL hv ck hF t3 hc, howy hL hv mk hF t4 hc⟩
theorem x_get7 {S : mS} {n r c : Nat} (hL : Ly S) (h : S.2.1 7 3 = nI n) (hn : n ≤ 6) (hr : r < n) (hc : c < 2) : f_X3_get (nI 7) (nI r) (nI c) S = some (S.2.1 8 (3 * r + c)) := by
  have e1 : S.2.1 7 1 = nI 2 := Ly_at hL 7 1 2 (by decide) (by decide) (by decide)
  have e3 : 3 * nI r = nI (3 * r) := nI_mul 3 r
  have b : 3 * r + c < 18 := by omega
  simp (maxDischargeDepth := 40) only [f_X3_get, f_X3_get_33, f_X3_get_52, hL, gc_0, gc_1, gc_2, gc_3, gc_4, gc_5, Ly_put, kcf, kca, h, e1, (is_dN n (by omega)).1, (is_dN (v := nI c) 2 (by decide)).1, dN_nI hr (by omega), dN_nI hc (by decide), e3, nI_add, b, mCp_e, mC_e, mCv_e, mZ_0, mZ_1, mZ_ifb, if_true, if_false, n10, eq_self, reduceCtorEq, Bool.false_eq_true, Nat.add_zero, Nat.reduceAdd]
theorem x_get9 {S : mS} {n r c : Nat} (hL : Ly S) (h : S.2.1 9 3 = nI n) (hn : n ≤ 6) (hr : r < n) (hc : c < 3) : f_X3_get (nI 9) (nI r) (nI c) S = some (S.2.1 10 (3 * r + c)) := by
  have e1 : S.2.1 9 1 = nI 3 := Ly_at hL 9 1 3 (by decide) (by decide) (by decide)
  have e3 : 3 * nI r = nI (3 * r) := nI_mul 3 r
  have b : 3 * r + c < 18 := by omega
  simp (maxDischargeDepth := 40) only [f_X3_get, f_X3_get_33, f_X3_get_52, hL, gc_0, gc_1, gc_2, gc_3, gc_4, gc_5, Ly_put, kcf, kca, h, e1, (is_dN n (by omega)).1, (is_dN (v := nI c) 3 (by decide)).1, dN_nI hr (by omega), dN_nI hc (by decide), e3, nI_add, b, mCp_e, mC_e, mCv_e, mZ_0, mZ_1, mZ_ifb, if_true, if_false, n10, eq_self, reduceCtorEq, Bool.false_eq_true, Nat.add_zero, Nat.reduceAdd]
theorem x_get11 {S : mS} {n r c : Nat} (hL : Ly S) (h : S.2.1 11 3 = nI n) (hn : n ≤ 6) (hr : r < n) (hc : c < 3) : f_X3_get (nI 11) (nI r) (nI c) S = some (S.2.1 12 (3 * r + c)) := by
  have e1 : S.2.1 11 1 = nI 3 := Ly_at hL 11 1 3 (by decide) (by decide) (by decide)
  have e3 : 3 * nI r = nI (3 * r) := nI_mul 3 r
  have b : 3 * r + c < 18 := by omega
  simp (maxDischargeDepth := 40) only [f_X3_get, f_X3_get_33, f_X3_get_52, hL, gc_0, gc_1, gc_2, gc_3, gc_4, gc_5, Ly_put, kcf, kca, h, e1, (is_dN n (by omega)).1, (is_dN (v := nI c) 3 (by decide)).1, dN_nI hr (by omega), dN_nI hc (by decide), e3, nI_add, b, mCp_e, mC_e, mCv_e, mZ_0, mZ_1, mZ_ifb, if_true, if_false, n10, eq_self, reduceCtorEq, Bool.false_eq_true, Nat.add_zero, Nat.reduceAdd]
/-! all of some -/
def al (p : Nat → Bool) : Nat → Bool
  | 0 => true
  | n + 1 => al p n && p n
theorem al_f {p : Nat → Bool} {j N : Nat} (h : p j = false) (hj : j < N) : al p N = false := by
  induction N with
  | zero => omega
  | succ N ih =>
    unfold al
    by_cases e : j = N
    · rw [← e, h, Bool.and_false]
    · rw [ih (by omega), Bool.false_and]
theorem lupE {β : Type} (G : Nat → Nat → β) (p : Nat → Bool) (N : Nat) (t f : β) (st : ∀ n j, j < N → G (n + 1) j = if p j = true then G n (j + 1) else f) (fi : ∀ n, G (n + 1) N = t) (n : Nat) (hn : N < n) : G n 0 = if al p N = true then t else f := by
  have h : ∀ d j n, j + d = N → d < n → al p j = true → G n j = if al p N = true then t else f := by
    intro d
    induction d with
    | zero =>
      intro j n hj hn ha
      obtain ⟨m, rfl⟩ : ∃ m, n = m + 1 := ⟨n - 1, by omega⟩
      obtain rfl : j = N := by omega
      rw [fi, if_pos ha]
    | succ d ih =>
      intro j n hj hn ha
      obtain ⟨m, rfl⟩ : ∃ m, n = m + 1 := ⟨n - 1, by omega⟩
      rw [st m j (by omega)]
      cases c : p j with
      | true =>
        rw [if_pos rfl]
        exact ih (j + 1) m (by omega) (by omega) (by unfold al; rw [ha, c]; rfl)
      | false =>
        rw [if_neg (by decide), al_f c (show j < N by omega), if_neg (by decide)]
  exact h N 0 n (by omega) hn rfl
theorem o_count {S : mS} (H : Inv S) (v1 : Int32) : Agr (f_X6_count (nI 0) v1) (f_X7_count (nI 83) v1) S := by
  obtain ⟨k, I⟩ := Inv_k H
  have hL := I.1
  have hv : VH k.h := I.2.1.1
  have hr : RH S 2 k.h := I.2.2.1.2.1
  have hm : MK S k := I.2.2.2.1
  have hq : RM S k.h := hm.2.1
  have ho : HO 2 := Or.inl rfl
  have hw := hv.1
  have hf := hv.2.1
  have w7 : k.h.w ≤ 7 := by omega
  have I' := I
  obtain ⟨⟨n, b, t1, t2, t3, t4, t5⟩, -, -, -, -⟩ := I'.2.2.2.2
  have hF : k.fold < 25 := I.2.1.2.2.1
  cases c1 : dN 10 v1 with
  | false =>
    exact Agr_ref (v := -2) 0 (by decide) I (by simp (maxDischargeDepth := 40) only [f_X6_count, f_X6_count_24, hL, gc_0, gc_1, gc_2, gc_3, gc_4, gc_5, Ly_put, kcf, kca, x_hasW _ ho hL hr w7, x_hasS _ ho hL hr hf, x_cell, x_kind, x_iscall, x_isimage, i_in, c1, x_bad hL, mCp_e, mC_e, mCv_e, mZ_0, mZ_1, mZ_ifb, if_true, if_false, n10, eq_self, reduceCtorEq, Bool.false_eq_true, Nat.add_zero, Nat.reduceAdd]) (fun S1 hL1 hm1 => by simp (maxDischargeDepth := 40) only [f_X7_count, f_X7_count_22, hL1, gc_0, gc_1, gc_2, gc_3, gc_4, gc_5, Ly_put, kcf, kca, y_hasW _ hL1 hm1.2.1 w7, y_hasS _ hL1 hm1.2.1 hf, y_cell, y_iscall, i_in, c1, y_bad hL1, mCp_e, mC_e, mCv_e, mZ_0, mZ_1, mZ_ifb, if_true, if_false, n10, eq_self, reduceCtorEq, Bool.false_eq_true, Nat.add_zero, Nat.reduceAdd])
  | true =>
    obtain ⟨c, hc, rfl⟩ := dN_some c1 (by decide)
    obtain ⟨r, e1, e2⟩ := howm ho hL hv I.2.2.1 hm hF t3 t4 hc
    exact Agr_r I (r := r) (by simp (maxDischargeDepth := 40) only [f_X6_count, f_X6_count_24, hL, gc_0, gc_1, gc_2, gc_3, gc_4, gc_5, Ly_put, kcf, kca, i_in, c1, e1, mCp_e, mC_e, mCv_e, mZ_0, mZ_1, mZ_ifb, if_true, if_false, n10, eq_self, reduceCtorEq, Bool.false_eq_true, Nat.add_zero, Nat.reduceAdd]) (by simp (maxDischargeDepth := 40) only [f_X7_count, f_X7_count_22, hL, gc_0, gc_1, gc_2, gc_3, gc_4, gc_5, Ly_put, kcf, kca, i_in, c1, e2, mCp_e, mC_e, mCv_e, mZ_0, mZ_1, mZ_ifb, if_true, if_false, n10, eq_self, reduceCtorEq, Bool.false_eq_true, Nat.add_zero, Nat.reduceAdd])
