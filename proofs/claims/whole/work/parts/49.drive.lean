/-! drive, the reference's side: the cell 96 -/
theorem m25 (x : Nat) : 25 * nI x = nI (25 * x) := nI_mul 25 x
def dr_G (S : mS) (kw ks t m w f d : Nat) : Bool := tb (S.2.1 96 (25 * (m + 1) + dr_W kw t m w d)) (pGv ks f (dr_W kw t m w d))
/-- a row of good: from where one comes there in n calls -/
def dr_R (S : mS) (kw ks t c n m : Nat) : Prop := ∀ w, w < 25 → ∀ f, f < 25 → tb (S.2.1 96 (25 * m + w)) f = dr_A kw ks t c n m w f
theorem dr_GA {S : mS} {kw ks t c n m w f d : Nat} (hk : ks < 6) (hR : dr_R S kw ks t c n (m + 1)) (hw : w < 25) (hf : f < 25) (hd : d < 5) : dr_G S kw ks t m w f d = dr_A kw ks t c n (m + 1) (dr_W kw t m w d) (pGv ks f (dr_W kw t m w d)) := hR _ (dr_W_lt hw hd) _ (p_gives _ hk _ hf _ (dr_W_lt hw hd))
theorem y_isG {S : mS} {h : HS} {i s m w f d : Nat} (hL : Ly S) (hr : RM S h) (hv : VH h) (ht : h.t ≤ 9999) (hs : s < h.f) (hi : i < h.w) (hm : m < 10) (hw : w < 25) (hf : f < 25) (hd : d < 5) : f_X7_isGood (nI 83) (nI s) (nI i) (nI m) (nI w) (nI f) (nI d) S = some (if dr_G S (h.wk i) (h.sk s) h.t m w f d = true then 1 else 0) := by
  have ww := dr_W_lt (kw := h.wk i) (t := h.t) (m := m) hw hd
  have gg := p_gives _ (hv.2.2.2.2 s hs).1 _ hf _ ww
  have e1 : f_X7_whistleThen (nI 83) (nI i) (nI w) (nI d) (nI (h.t + m)) S = some (nI (dr_W (h.wk i) h.t m w d)) := y_wTh hL hr hv hi hw hd (by omega)
  have e2 := y_sTh hL hr hv hs hf ww
  have e3 := (x_hasB (v := S.2.1 96 (25 * (m + 1) + dr_W (h.wk i) h.t m w d)) (j := pGv (h.sk s) f (dr_W (h.wk i) h.t m w d)) (by omega)).2
  have b : 25 * (m + 1) + dr_W (h.wk i) h.t m w d < 275 := by omega
  simp (maxDischargeDepth := 40) only [f_X7_isGood, hL, gc_0, gc_1, gc_2, gc_3, gc_4, gc_5, Ly_put, kcf, kca, hr.2.2.1, nI_add, e1, nI_1, m25, b, e2, e3, mCp_e, mC_e, mCv_e, mZ_0, mZ_1, mZ_ifb, if_true, if_false, n10, eq_self, reduceCtorEq, Bool.false_eq_true, Nat.add_zero, Nat.reduceAdd]
  rfl
theorem y_72 {S : mS} {h : HS} {i s m w f : Nat} {X : Int32} {k : Int32 → Int32 → Int32 → Int32 → Int32 → Int32 → Int32 → Int32 → mS → Option mS} (hL : Ly S) (hr : RM S h) (hv : VH h) (ht : h.t ≤ 9999) (hs : s < h.f) (hi : i < h.w) (hm : m < 10) (hw : w < 25) (hf : f < 25) : f_X7_setGood_72 k 1000 (nI 83) (nI s) (nI i) (nI m) (nI w) X (nI f) 0 0 S = k (nI 83) (nI s) (nI i) (nI m) (nI w) X (nI f) (if anyB (dr_G S (h.wk i) (h.sk s) h.t m w f) 5 = true then 1 else 0) S := by
  refine lupX (fun n j (b : Bool) => f_X7_setGood_72 k n (nI 83) (nI s) (nI i) (nI m) (nI w) X (nI f) (if b = true then 1 else 0) (nI j) S) (fun j b => b = anyB (dr_G S (h.wk i) (h.sk s) h.t m w f) j) (fun β => β = k (nI 83) (nI s) (nI i) (nI m) (nI w) X (nI f) (if anyB (dr_G S (h.wk i) (h.sk s) h.t m w f) 5 = true then 1 else 0) S) 5 ?_ ?_ 1000 false rfl (by decide)
  · rintro n j b hj (q : b = _)
    have le : ((5 : Int32) ≤ nI j) = False := eq_false (nI_ge hj (by decide))
    cases b with
    | true =>
      left
      have h5 : anyB (dr_G S (h.wk i) (h.sk s) h.t m w f) 5 = true := by
        obtain ⟨x, hx, e⟩ := (anyB_iff _ _).mp q.symm
        exact (anyB_iff _ _).mpr ⟨x, by omega, e⟩
      show f_X7_setGood_72 k (n + 1) _ _ _ _ _ _ _ _ _ S = _
      rw [f_X7_setGood_72_s, h5]
      simp (maxDischargeDepth := 40) only [le, mCp_e, mC_e, mCv_e, mZ_0, mZ_1, mZ_ifb, if_true, if_false, n10, eq_self, reduceCtorEq, Bool.false_eq_true, Nat.add_zero, Nat.reduceAdd]
    | false =>
      right
      refine ⟨dr_G S (h.wk i) (h.sk s) h.t m w f j, ?_, ?_⟩
      · show _ = (anyB _ j || _)
        rw [← q, Bool.false_or]
      · show f_X7_setGood_72 k (n + 1) _ _ _ _ _ _ _ _ _ S = _
        rw [f_X7_setGood_72_s]
        simp (maxDischargeDepth := 40) only [le, hL, gc_0, gc_1, gc_2, gc_3, gc_4, gc_5, Ly_put, kcf, kca, y_isG hL hr hv ht hs hi hm hw hf hj, nI_1, mCp_e, mC_e, mCv_e, mZ_0, mZ_1, mZ_ifb, if_true, if_false, n10, eq_self, reduceCtorEq, Bool.false_eq_true, Nat.add_zero, Nat.reduceAdd]
  · rintro n b (q : b = _)
    have le : ((5 : Int32) ≤ nI 5) = True := eq_true (ng_i (a := 5))
    show f_X7_setGood_72 k (n + 1) _ _ _ _ _ _ _ _ _ S = _
    rw [f_X7_setGood_72_s, ← q]
    simp (maxDischargeDepth := 40) only [le, if_true]
theorem y_59 {S : mS} {h : HS} {i s m w : Nat} {k : Int32 → Int32 → Int32 → Int32 → Int32 → Int32 → mS → Option mS} (hL : Ly S) (hr : RM S h) (hv : VH h) (ht : h.t ≤ 9999) (hs : s < h.f) (hi : i < h.w) (hm : m < 10) (hw : w < 25) : f_X7_setGood_59 k 1000 (nI 83) (nI s) (nI i) (nI m) (nI w) 0 0 S = k (nI 83) (nI s) (nI i) (nI m) (nI w) (bI (fun f => anyB (dr_G S (h.wk i) (h.sk s) h.t m w f) 5) 25) S := by
  obtain ⟨q, e⟩ := lup (fun n j => f_X7_setGood_59 k n (nI 83) (nI s) (nI i) (nI m) (nI w) (bI (fun f => anyB (dr_G S (h.wk i) (h.sk s) h.t m w f) 5) j) (nI j) S) 25 (fun n j hj => by
    have le : ((25 : Int32) ≤ nI j) = False := eq_false (nI_ge hj (by decide))
    show f_X7_setGood_59 k (n + 1) _ _ _ _ _ _ _ S = f_X7_setGood_59 k n _ _ _ _ _ (if anyB (dr_G S (h.wk i) (h.sk s) h.t m w j) 5 = true then _ else _) (nI (j + 1)) S
    rw [f_X7_setGood_59_s]
    simp (maxDischargeDepth := 40) only [le, if_false]
    rw [y_72 hL hr hv ht hs hi hm hw hj, f_X7_setGood_105, f_X7_setGood_120, f_X7_setGood_120]
    cases anyB (dr_G S (h.wk i) (h.sk s) h.t m w j) 5 with
    | true => simp (maxDischargeDepth := 40) only [nI_1, mCp_e, mC_e, mCv_e, mZ_0, mZ_1, mZ_ifb, if_true, if_false, n10, eq_self, reduceCtorEq, Bool.false_eq_true, Nat.add_zero, Nat.reduceAdd]
    | false => simp (maxDischargeDepth := 40) only [nI_1, Int32.or_zero, mCp_e, mC_e, mCv_e, mZ_0, mZ_1, mZ_ifb, if_true, if_false, n10, eq_self, reduceCtorEq, Bool.false_eq_true, Nat.add_zero, Nat.reduceAdd]) 1000 (by decide)
  refine Eq.trans e ?_
  have le : ((25 : Int32) ≤ nI 25) = True := eq_true (ng_i (a := 25))
  show f_X7_setGood_59 k (q + 1) _ _ _ _ _ _ _ S = _
  rw [f_X7_setGood_59_s]
  simp (maxDischargeDepth := 40) only [le, if_true]
theorem y_46 {S : mS} {h : HS} {i s m n c : Nat} {k : Int32 → Int32 → Int32 → Int32 → mS → Option mS} (hL : Ly S) (hr : RM S h) (hv : VH h) (ht : h.t ≤ 9999) (hs : s < h.f) (hi : i < h.w) (hm : m < 10) (hR : dr_R S (h.wk i) (h.sk s) h.t c n (m + 1)) : ∃ S1, f_X7_setGood_46 k 1000 (nI 83) (nI s) (nI i) (nI m) 0 S = k (nI 83) (nI s) (nI i) (nI m) S1 ∧ Ly S1 ∧ Fr 96 97 S S1 ∧ dr_R S1 (h.wk i) (h.sk s) h.t c (n + 1) m ∧ ∀ j, 25 * m + 25 ≤ j → S1.2.1 96 j = S.2.1 96 j := by
  have hk := (hv.2.2.2.2 s hs).1
  obtain ⟨q, S1, ⟨p1, p2, p3, p4⟩, e⟩ := lupI (fun n j (T : mS) => f_X7_setGood_46 k n (nI 83) (nI s) (nI i) (nI m) (nI j) T) (fun j (T : mS) => Ly T ∧ Fr 96 97 S T ∧ (∀ w, w < j → ∀ f, f < 25 → tb (T.2.1 96 (25 * m + w)) f = dr_A (h.wk i) (h.sk s) h.t c (n + 1) m w f) ∧ ∀ j, 25 * m + 25 ≤ j → T.2.1 96 j = S.2.1 96 j) 25 (by
    rintro u j T hj ⟨q1, q2, q3, q4⟩
    have le : ((25 : Int32) ≤ nI j) = False := eq_false (nI_ge hj (by decide))
    have hrT : RM T h := RM_sa (q2.sa (by omega)) hr
    have hRT : dr_R T (h.wk i) (h.sk s) h.t c n (m + 1) := fun w hw f hf => by rw [q4 _ (by omega)]; exact hR w hw f hf
    refine ⟨mPut T 96 (25 * m + j) (bI (fun f => anyB (dr_G T (h.wk i) (h.sk s) h.t m j f) 5) 25), ⟨Ly_put q1 (cst_arr (Or.inl rfl)), Fr_tr q2 (Fr_put (by omega) (by omega)), fun w hw f hf => ?_, fun j hj => by rw [mPut_g, if_neg (by omega)]; exact q4 j hj⟩, ?_⟩
    · rw [mPut_g]
      by_cases g : w = j
      · rw [if_pos ⟨rfl, by omega⟩, bI_tb _ _ (by decide) _ (by omega), show decide (f < 25) = true from decide_eq_true hf, Bool.true_and, g]
        exact anyB_eq (fun d hd => dr_GA hk hRT hj hf hd)
      · rw [if_neg (by omega)]
        exact q3 w (by omega) f hf
    · show f_X7_setGood_46 k (u + 1) _ _ _ _ _ T = _
      have b : 25 * m + j < 275 := by omega
      rw [f_X7_setGood_46_s]
      simp (maxDischargeDepth := 40) only [le, if_false]
      rw [y_59 q1 hrT hv ht hs hi hm hj]
      simp (maxDischargeDepth := 40) only [f_X7_setGood_129, q1, gc_0, gc_1, gc_2, gc_3, gc_4, gc_5, Ly_put, kcf, kca, m25, nI_add, b, nI_1, mCp_e, mC_e, mCv_e, mZ_0, mZ_1, mZ_ifb, if_true, if_false, n10, eq_self, reduceCtorEq, Bool.false_eq_true, Nat.add_zero, Nat.reduceAdd]) 1000 S ⟨hL, Fr_rf, fun w hw => absurd hw (Nat.not_lt_zero w), fun _ _ => rfl⟩ (by decide)
  refine ⟨S1, ?_, p1, p2, p3, p4⟩
  refine Eq.trans e ?_
  have le : ((25 : Int32) ≤ nI 25) = True := eq_true (ng_i (a := 25))
  show f_X7_setGood_46 k (q + 1) _ _ _ _ _ S1 = _
  rw [f_X7_setGood_46_s]
  simp (maxDischargeDepth := 40) only [le, if_true]
theorem y_38 {S : mS} {h : HS} {i s a c : Nat} (hL : Ly S) (hr : RM S h) (hv : VH h) (ht : h.t ≤ 9999) (hs : s < h.f) (hi : i < h.w) (ha : a ≤ 10) (hR : dr_R S (h.wk i) (h.sk s) h.t c 0 a) : ∃ S1, f_X7_setGood_38 f_X7_setGood_156 1000 (nI 83) (nI s) (nI i) (nI a - 1) S = some S1 ∧ Ly S1 ∧ Fr 96 97 S S1 ∧ ∀ m, m ≤ a → dr_R S1 (h.wk i) (h.sk s) h.t c (a - m) m := by
  obtain ⟨q, S1, ⟨p1, p2, p3⟩, e⟩ := lupI (fun n j (T : mS) => f_X7_setGood_38 f_X7_setGood_156 n (nI 83) (nI s) (nI i) (nI (a - j) - 1) T) (fun j (T : mS) => Ly T ∧ Fr 96 97 S T ∧ ∀ m, a - j ≤ m → m ≤ a → dr_R T (h.wk i) (h.sk s) h.t c (a - m) m) a (by
    rintro u j T hj ⟨q1, q2, q3⟩
    have hrT : RM T h := RM_sa (q2.sa (by omega)) hr
    have hx : (nI (a - j) - 1 : Int32) = nI (a - (j + 1)) := by rw [show (1 : Int32) = nI 1 from rfl, nI_sub (by omega)]; congr 1
    have hn : (nI (a - (j + 1)) < 0) = False := nI_n0 (by omega)
    obtain ⟨T1, t1, t2, t3, t4, t5⟩ := y_46 (k := f_X7_setGood_150 (f_X7_setGood_38 f_X7_setGood_156 u)) (m := a - (j + 1)) (n := j) (c := c) q1 hrT hv ht hs hi (by omega) (by
      have := q3 (a - j) (by omega) (by omega)
      rw [show a - (j + 1) + 1 = a - j by omega]
      rw [show a - (a - j) = j by omega] at this
      exact this)
    refine ⟨T1, ⟨t2, Fr_tr q2 t3, fun m h1 h2 => ?_⟩, ?_⟩
    · by_cases g : m = a - (j + 1)
      · rw [g, show a - (a - (j + 1)) = j + 1 by omega]
        exact t4
      · intro w hw f hf
        rw [t5 _ (by omega)]
        exact q3 m (by omega) h2 w hw f hf
    · show f_X7_setGood_38 f_X7_setGood_156 (u + 1) _ _ _ _ T = _
      rw [f_X7_setGood_38_s, hx]
      simp (maxDischargeDepth := 40) only [hn, if_false]
      refine t1.trans ?_
      show _ = f_X7_setGood_38 f_X7_setGood_156 u (nI 83) (nI s) (nI i) (nI (a - (j + 1)) - 1) T1
      rw [f_X7_setGood_150, Int32.sub_eq_add_neg]) 1000 S ⟨hL, Fr_rf, fun m h1 h2 => by rw [show m = a by omega, Nat.sub_self]; exact hR⟩ (by omega)
  refine ⟨S1, ?_, p1, p2, fun m hm => p3 m (by omega) hm⟩
  refine Eq.trans e ?_
  show f_X7_setGood_38 f_X7_setGood_156 (q + 1) _ _ _ _ S1 = _
  have hn : ((nI (a - a) - 1 : Int32) < 0) = True := by rw [Nat.sub_self]; exact eq_true (by decide)
  rw [f_X7_setGood_38_s]
  simp (maxDischargeDepth := 40) only [hn, if_true, f_X7_setGood_156]
theorem y_setG {S : mS} {h : HS} {i s a c : Nat} (hL : Ly S) (hr : RM S h) (hv : VH h) (ht : h.t ≤ 9999) (hs : s < h.f) (hi : i < h.w) (hc : c < 25) (ha : a ≤ 10) : ∃ S1, f_X7_setGood (nI 83) (nI s) (nI i) (nI c) (nI a) S = some S1 ∧ Ly S1 ∧ Fr 96 97 S S1 ∧ ∀ m, m ≤ a → dr_R S1 (h.wk i) (h.sk s) h.t c (a - m) m := by
  obtain ⟨q, S1, ⟨p1, p2, p3⟩, e⟩ := lupI (fun n j (T : mS) => f_X7_setGood_3 (f_X7_setGood_32) n (nI 83) (nI s) (nI i) (nI c) (nI a) (nI j) T) (fun j (T : mS) => Ly T ∧ Fr 96 97 S T ∧ ∀ w, w < j → T.2.1 96 (25 * a + w) = 1 <<< (nI c &&& 31)) 25 (by
    rintro u j T hj ⟨q1, q2, q3⟩
    have le : ((25 : Int32) ≤ nI j) = False := eq_false (nI_ge hj (by decide))
    have b : 25 * a + j < 275 := by omega
    refine ⟨mPut T 96 (25 * a + j) (1 <<< (nI c &&& 31)), ⟨Ly_put q1 (cst_arr (Or.inl rfl)), Fr_tr q2 (Fr_put (by omega) (by omega)), fun w hw => ?_⟩, ?_⟩
    · rw [mPut_g]
      by_cases g : w = j
      · rw [if_pos ⟨rfl, by omega⟩]
      · rw [if_neg (by omega)]
        exact q3 w (by omega)
    · show f_X7_setGood_3 (f_X7_setGood_32) (u + 1) _ _ _ _ _ _ T = _
      rw [f_X7_setGood_3_s]
      simp (maxDischargeDepth := 40) only [le, q1, gc_0, gc_1, gc_2, gc_3, gc_4, gc_5, Ly_put, kcf, kca, m25, nI_add, b, nI_1, mCp_e, mC_e, mCv_e, mZ_0, mZ_1, mZ_ifb, if_true, if_false, n10, eq_self, reduceCtorEq, Bool.false_eq_true, Nat.add_zero, Nat.reduceAdd]) 1000 S ⟨hL, Fr_rf, fun w hw => absurd hw (Nat.not_lt_zero w)⟩ (by decide)
  obtain ⟨S2, s1, s2, s3, s4⟩ := y_38 (c := c) (a := a) p1 (RM_sa (p2.sa (by omega)) hr) hv ht hs hi ha (fun w hw f hf => by
    rw [p3 w hw, tb_one c (by omega) f (by omega)]
    rfl)
  refine ⟨S2, ?_, s2, Fr_tr p2 s3, s4⟩
  refine Eq.trans e ?_
  have le : ((25 : Int32) ≤ nI 25) = True := eq_true (ng_i (a := 25))
  show f_X7_setGood_3 (f_X7_setGood_32) (q + 1) _ _ _ _ _ _ S1 = _
  rw [f_X7_setGood_3_s]
  simp (maxDischargeDepth := 40) only [le, if_true, f_X7_setGood_32]
  exact s1
