/-! read, the class's side: the whole TEXT -/
theorem VH_t {h : HS} {t : Nat} (hv : VH h) (ht : t ≤ 20000) : VH (setT h t) := ⟨hv.1, hv.2.1, ht, hv.2.2.2.1, hv.2.2.2.2⟩
theorem CK_F {S : mS} {o c : Nat} {k : KS} (h : CK S o k) : CK (mPut S o 5 (nI c)) o (setF k c) := by
  obtain ⟨c1, c2, c3, c4, c5, c6⟩ := h
  exact ⟨by rw [mPut_g, if_pos ⟨rfl, rfl⟩]; rfl, RH_sa (fun q a b => mPut_r _ _ _ _ _ (by omega)) c2, RR_sa (mPut_r _ _ _ _ _ (by omega)) (mPut_r _ _ _ _ _ (by omega)) c3, RR_sa (mPut_r _ _ _ _ _ (by omega)) (mPut_r _ _ _ _ _ (by omega)) c4, RR_sa (mPut_r _ _ _ _ _ (by omega)) (mPut_r _ _ _ _ _ (by omega)) c5, RP_sa (mPut_r _ _ _ _ _ (by omega)) (mPut_r _ _ _ _ _ (by omega)) c6⟩
theorem pX_ok {k v1 v2 w f : Nat} {fst : Bool} {h : HS} {c : Nat} (hv : VH h) (hc : c < 25) (ht : h.t ≤ 9900) (hw : w = h.w) (hf : f = h.f) (m1 : mayB k w f fst = true) (m2 : fsN k w v1 = true) (m3 : v1 < 100) (m4 : ¬ (k = 4 ∨ k = 8) → snN k v2 = true) : (k = 4 ∨ k = 5 ∨ k = 6 ∨ k = 7 ∨ k = 8) ∧ VH (pX k v1 v2 h c).1 ∧ (pX k v1 v2 h c).2 < 25 ∧ (pX k v1 v2 h c).1.t ≤ h.t + 99 := by
  subst hw hf
  have k4 : k = 4 ∨ k = 5 ∨ k = 6 ∨ k = 7 ∨ k = 8 := by
    unfold mayB at m1
    by_cases a4 : k = 4
    · omega
    · by_cases a5 : k = 5
      · omega
      · by_cases a6 : k = 6
        · omega
        · by_cases a7 : k = 7
          · omega
          · by_cases a8 : k = 8
            · omega
            · rw [if_neg a4, if_neg a5, if_neg a6, if_neg a7, if_neg a8] at m1
              cases m1
  refine ⟨k4, ?_⟩
  rcases k4 with rfl | rfl | rfl | rfl | rfl
  · exact ⟨hv, of_decide_eq_true (show decide (v1 < 25) = true from m2), Nat.le_add_right _ _⟩
  · have z1 : (!fst && decide (h.w < 3)) = true := m1
    rw [Bool.and_eq_true, decide_eq_true_eq] at z1
    exact ⟨VH_aw hv z1.2 (of_decide_eq_true (show decide (v1 < 6) = true from m2)) (of_decide_eq_true (show decide (v2 < 25) = true from m4 (by decide))), hc, Nat.le_add_right _ _⟩
  · have z1 : (!fst && decide (h.f < 7)) = true := m1
    rw [Bool.and_eq_true, decide_eq_true_eq] at z1
    exact ⟨VH_as hv z1.2 (of_decide_eq_true (show decide (v1 < 6) = true from m2)) (of_decide_eq_true (show decide (v2 < 25) = true from m4 (by decide))), hc, Nat.le_add_right _ _⟩
  · refine ⟨VH_C hv (by omega) (of_decide_eq_true (show decide (v1 < h.w) = true from m2)) (of_decide_eq_true (show decide (v2 < 5) = true from m4 (by decide))), hc, ?_⟩
    show h.t + 1 ≤ h.t + 99
    omega
  · refine ⟨VH_t hv (by omega), hc, ?_⟩
    show h.t + v1 ≤ h.t + 99
    omega
theorem x_coi {S : mS} {k v1 v2 : Nat} {fst : Bool} {h : HS} {c : Nat} (hL : Ly S) (ck : CK S 15 (kOf h c)) (hv : VH h) (ht : h.t ≤ 9900) (rt : Rt S k v1 v2) (m1 : mayB k h.w h.f fst = true) (m2 : fsN k h.w v1 = true) (m4 : ¬ (k = 4 ∨ k = 8) → snN k v2 = true) (k4 : k = 4 ∨ k = 5 ∨ k = 6 ∨ k = 7 ∨ k = 8) : ∃ S1, f_X4_carryOutItem (nI 59) (nI 15) S = some S1 ∧ Ly S1 ∧ Fr 15 29 S S1 ∧ CK S1 15 (kOf (pX k v1 v2 h c).1 (pX k v1 v2 h c).2) := by
  have hr : RH S 16 h := ck.2.1
  obtain ⟨r6, r7, r8⟩ := rt
  rcases k4 with rfl | rfl | rfl | rfl | rfl
  · refine ⟨mPut S 15 5 (nI v1), ?_, Ly_put hL (by decide), Fr_put (by decide) (by decide), CK_F ck⟩
    simp (maxDischargeDepth := 40) only [f_X4_carryOutItem, f_X4_carryOutItem_120, hL, gc_0, gc_1, gc_2, gc_3, gc_4, gc_5, Ly_put, kcf, kca, r6, r7, ntab, mCp_e, mC_e, mCv_e, mZ_0, mZ_1, mZ_ifb, if_true, if_false, n10, eq_self, reduceCtorEq, Bool.false_eq_true, Nat.add_zero, Nat.reduceAdd]
  · have z1 : (!fst && decide (h.w < 3)) = true := m1
    rw [Bool.and_eq_true, decide_eq_true_eq] at z1
    have r8 := r8 (by decide)
    obtain ⟨A, a1, a2, a3, a4⟩ := x_addW (a := v1) (c := v2) h16_ hL hr z1.2
    refine ⟨A, ?_, a2, Fr_wd a4 (by decide) (by decide), CK_h0 (k := kOf h c) (Fr_wd a4 (by decide) (by decide)) ck a3⟩
    simp (maxDischargeDepth := 40) only [f_X4_carryOutItem, f_X4_carryOutItem_120, hL, gc_0, gc_1, gc_2, gc_3, gc_4, gc_5, Ly_put, kcf, kca, r6, r7, r8, ntab, a1, mCp_e, mC_e, mCv_e, mZ_0, mZ_1, mZ_ifb, if_true, if_false, n10, eq_self, reduceCtorEq, Bool.false_eq_true, Nat.add_zero, Nat.reduceAdd]
  · have z1 : (!fst && decide (h.f < 7)) = true := m1
    rw [Bool.and_eq_true, decide_eq_true_eq] at z1
    have r8 := r8 (by decide)
    obtain ⟨A, a1, a2, a3, a4⟩ := x_addS (a := v1) (c := v2) h16_ hL hr z1.2
    refine ⟨A, ?_, a2, Fr_wd a4 (by decide) (by decide), CK_h0 (k := kOf h c) (Fr_wd a4 (by decide) (by decide)) ck a3⟩
    simp (maxDischargeDepth := 40) only [f_X4_carryOutItem, f_X4_carryOutItem_120, hL, gc_0, gc_1, gc_2, gc_3, gc_4, gc_5, Ly_put, kcf, kca, r6, r7, r8, ntab, a1, mCp_e, mC_e, mCv_e, mZ_0, mZ_1, mZ_ifb, if_true, if_false, n10, eq_self, reduceCtorEq, Bool.false_eq_true, Nat.add_zero, Nat.reduceAdd]
  · have r8 := r8 (by decide)
    obtain ⟨A, a1, a2, a3, a4⟩ := x_call (i := v1) (d := v2) h16_ hL hr hv (of_decide_eq_true (show decide (v1 < h.w) = true from m2)) (of_decide_eq_true (show decide (v2 < 5) = true from m4 (by decide)))
    refine ⟨A, ?_, a2, Fr_wd a4 (by decide) (by decide), CK_h0 (k := kOf h c) (Fr_wd a4 (by decide) (by decide)) ck a3⟩
    simp (maxDischargeDepth := 40) only [f_X4_carryOutItem, f_X4_carryOutItem_120, hL, gc_0, gc_1, gc_2, gc_3, gc_4, gc_5, Ly_put, kcf, kca, r6, r7, r8, ntab, a1, mCp_e, mC_e, mCv_e, mZ_0, mZ_1, mZ_ifb, if_true, if_false, n10, eq_self, reduceCtorEq, Bool.false_eq_true, Nat.add_zero, Nat.reduceAdd]
  · have r2 : S.2.1 16 6 = nI h.t := hr.2.2.1
    refine ⟨mPut S 16 6 (nI (h.t + v1)), ?_, Ly_put hL (by decide), Fr_put (by decide) (by decide), CK_h0 (k := kOf h c) (Fr_put (by decide) (by decide)) ck (RH_T hr)⟩
    simp (maxDischargeDepth := 40) only [f_X4_carryOutItem, f_X4_carryOutItem_120, hL, gc_0, gc_1, gc_2, gc_3, gc_4, gc_5, Ly_put, kcf, kca, r6, r7, r2, ntab, nI_add, mCp_e, mC_e, mCv_e, mZ_0, mZ_1, mZ_ifb, if_true, if_false, n10, eq_self, reduceCtorEq, Bool.false_eq_true, Nat.add_zero, Nat.reduceAdd]
def FX (S S1 : mS) : Prop := S1.1 = S.1 ∧ (∀ k, (k < 15 ∨ (29 ≤ k ∧ k ≠ 59)) → S1.2.1 k = S.2.1 k) ∧ S1.2.1 59 1 = S.2.1 59 1 ∧ S1.2.2 = S.2.2
theorem FX_rf {S : mS} : FX S S := ⟨rfl, fun _ _ => rfl, rfl, rfl⟩
theorem FX_tr {S S1 S2 : mS} (a : FX S S1) (b : FX S1 S2) : FX S S2 := ⟨b.1.trans a.1, fun k h => (b.2.1 k h).trans (a.2.1 k h), b.2.2.1.trans a.2.2.1, b.2.2.2.trans a.2.2.2⟩
theorem FX_ff {S S1 : mS} {lo hi : Nat} (f : Ff lo hi S S1) (h : 1 < lo) : FX S S1 := ⟨f.2.1.1, fun k hk => f.2.1.2.1 k (by omega), f.2.2 1 (by omega), f.2.1.2.2⟩
theorem FX_fr {S S1 : mS} (f : Fr 15 29 S S1) : FX S S1 := ⟨f.1, fun k hk => f.2.1 k (by omega), by rw [f.2.1 59 (by omega)], f.2.2⟩
theorem xC_fr {S S1 : mS} {n : Nat} {b : Nat → Nat} (f : Fr 15 29 S S1) (c : xC S n b) : xC S1 n b := by
  unfold xC
  rw [f.2.1 59 (by omega), f.2.1 60 (by omega)]
  exact c
theorem CK_ff {S S1 : mS} {lo hi : Nat} {k : KS} (f : Ff lo hi S S1) (c : CK S 15 k) : CK S1 15 k := CK_sa (f.2.1.sa (by omega)) c
def xR (S1 : mS) (r : Int32) (o : Option (HS × Nat)) (q : Nat) : Prop := q ≤ 150 ∧ ((o = none ∧ r = -10 - nI q) ∨ ∃ h c, o = some (h, c) ∧ r = nI q ∧ CK S1 15 (kOf h c) ∧ VH h ∧ h.t ≤ 9999 ∧ c < 25)
theorem pI_flt {n : Nat} {b : Nat → Nat} {fst : Bool} {w f p : Nat} (hp : p ≤ n) : (pI n b fst w f p).2 ≤ n := by
  have l0 := (tE_le (b := b) hp).2
  have l1 := (tE_le (b := b) l0).2
  have l2 := (tE_le (b := b) l1).2
  unfold pI pI1 pI2 pI3
  repeat' split
  all_goals first | exact (tS_le hp).2 | exact (tS_le l0).2 | exact (tS_le l1).2 | exact (tS_le l2).2 | exact (tE_le l1).2 | exact (tE_le l2).2
theorem x_co16 {n : Nat} {b : Nat → Nat} (hn : n ≤ 150) (hb : ∀ j, j < n → b j < 128) : ∀ m j h c p u S, n - p < m → m ≤ u → j ≤ p → p ≤ n → VH h → h.t ≤ 33 * p → c < 25 → Ly S → xC S n b → CK S 15 (kOf h c) → S.2.1 59 2 = nI (tS n b p) → S.2.1 59 3 = nI (tE n b p) → S.2.1 59 4 = nI (tK n b p) → ∃ r S1, f_X4_carryOut_16 f_X4_carryOut_79 u (nI 59) (nI 15) (nI j) S = some (r, S1) ∧ Ly S1 ∧ FX S S1 ∧ xR S1 r (pL n b m j h c p).1 (pL n b m j h c p).2 := by
  intro m
  induction m with
  | zero => intro j h c p u S h1; omega
  | succ m ih =>
    intro j h c p u S hm hu hj hp hv ht hc hL tx ck h2 h3 h4
    obtain ⟨u, rfl⟩ : ∃ w, u = w + 1 := ⟨u - 1, by omega⟩
    have lt : ((150 : Int32) < nI j) = False := by rw [show (150 : Int32) = nI 150 from rfl, lt_i (by decide) (by omega)]; exact eq_false (by omega)
    have z0 : (nI j ≤ 0) = (j ≤ 0) := le_i (b := 0) (by omega) (by decide)
    have y0 : (nI j = 0) = (j = 0) := eq_i (b := 0) (by omega) (by decide)
    have x0 : (nI (tK n b p) = 0) = (tK n b p = 0) := eq_i (b := 0) (by have := tK_lt (n := n) (b := b) (p := p); omega) (by decide)
    rw [f_X4_carryOut_16_s, pL]
    by_cases e : j ≠ 0 ∧ tK n b p = 0
    · have e1 : (j ≤ 0) = False := eq_false (by omega)
      have e2 : (tK n b p = 0) = True := eq_true e.2
      rw [if_pos e]
      refine ⟨nI j, S, ?_, hL, FX_rf, by show j ≤ 150; omega, Or.inr ⟨h, c, rfl, rfl, ck, hv, by omega, hc⟩⟩
      simp (maxDischargeDepth := 40) only [lt, z0, e1, hL, gc_0, gc_1, gc_2, gc_3, gc_4, gc_5, Ly_put, kcf, kca, h4, x0, e2, mCp_e, mC_e, mCv_e, mZ_0, mZ_1, mZ_ifb, if_true, if_false, n10, eq_self, reduceCtorEq, Bool.false_eq_true, Nat.add_zero, Nat.reduceAdd]
    · rw [if_neg e]
      have e50 : (if (150 : Int32) < nI j then f_X4_carryOut_79 (nI 59) S else if nI j ≤ 0 then f_X4_carryOut_36 (f_X4_carryOut_16 f_X4_carryOut_79 u) (nI 59) (nI 15) (nI j) S else mG 4 4 (nI 59) S fun r14 => if r14 = 0 then some (nI j, S) else f_X4_carryOut_36 (f_X4_carryOut_16 f_X4_carryOut_79 u) (nI 59) (nI 15) (nI j) S) = f_X4_carryOut_50 (f_X4_carryOut_16 f_X4_carryOut_79 u) (nI 59) (nI 15) (nI j) (nI 59) (nI 16) (if decide (j = 0) = true then 1 else 0) S := by
        by_cases g : j = 0
        · have g1 : (j ≤ 0) = True := eq_true (by omega)
          have g2 : (j = 0) = True := eq_true g
          simp (maxDischargeDepth := 40) only [lt, z0, g1, f_X4_carryOut_36, hL, gc_0, gc_1, gc_2, gc_3, gc_4, gc_5, Ly_put, kcf, kca, y0, g2, decide_true, mCp_e, mC_e, mCv_e, mZ_0, mZ_1, mZ_ifb, if_true, if_false, n10, eq_self, reduceCtorEq, Bool.false_eq_true, Nat.add_zero, Nat.reduceAdd]
        · have g1 : (j ≤ 0) = False := eq_false (by omega)
          have g2 : (j = 0) = False := eq_false g
          have g3 : (tK n b p = 0) = False := eq_false (fun z => e ⟨g, z⟩)
          simp (maxDischargeDepth := 40) only [lt, z0, g1, f_X4_carryOut_36, hL, gc_0, gc_1, gc_2, gc_3, gc_4, gc_5, Ly_put, kcf, kca, h4, x0, g3, y0, g2, decide_false, mCp_e, mC_e, mCv_e, mZ_0, mZ_1, mZ_ifb, if_true, if_false, n10, eq_self, reduceCtorEq, Bool.false_eq_true, Nat.add_zero, Nat.reduceAdd]
      rw [e50]
      have hr : RH S 16 h := ck.2.1
      obtain ⟨A, a1, a2, a3, a4⟩ := x_item (fst := decide (j = 0)) hL hn hb hp tx h2 h3 h4 hr hv.1 hv.2.1
      have A0 := a2.1
      have fl := pI_flt (b := b) (fst := decide (j = 0)) (w := h.w) (f := h.f) hp
      cases g : (pI n b (decide (j = 0)) h.w h.f p).1 with
      | false =>
        rw [g] at a1
        have q2 := a3.2 g
        rw [if_neg (show ¬ (false = true) by decide)]
        refine ⟨-10 - nI (pI n b (decide (j = 0)) h.w h.f p).2, A, ?_, A0, FX_ff a2 (by decide), by show (pI n b (decide (j = 0)) h.w h.f p).2 ≤ 150; omega, Or.inl ⟨rfl, rfl⟩⟩
        simp (maxDischargeDepth := 40) only [f_X4_carryOut_50, hL, gc_0, gc_1, gc_2, gc_3, gc_4, gc_5, Ly_put, kcf, kca, a1, A0, q2, mCp_e, mC_e, mCv_e, mZ_0, mZ_1, mZ_ifb, if_true, if_false, n10, eq_self, reduceCtorEq, Bool.false_eq_true, Nat.add_zero, Nat.reduceAdd]
      | true =>
        obtain ⟨p1, p2, p3, p4, p5, p6⟩ := pI_ok hp g
        obtain ⟨k4, w1, w2, w3⟩ := pX_ok (c := c) hv hc (show h.t ≤ 9900 by omega) rfl rfl p1 p2 p3 p4
        rw [g] at a1
        have q3 := a3.1 g
        obtain ⟨B, b1, b2, b3, b4⟩ := x_coi A0 (CK_ff a2 ck) hv (show h.t ≤ 9900 by omega) (a4 g) p1 p2 p4 k4
        obtain ⟨C, c1, c2, c3, c4, c5, -⟩ := x_next b2 hn hb p6 (xC_fr b3 (xC_f a2 (by decide) tx)) (by rw [b3.2.1 59 (by omega)]; exact q3)
        obtain ⟨r, D, d1, d2, d3, d4⟩ := ih (j + 1) (pX (tK n b p) (tV n b (tE n b p)) (tV n b (tE n b (tE n b p))) h c).1 (pX (tK n b p) (tV n b (tE n b p)) (tV n b (tE n b (tE n b p))) h c).2 (pI n b (decide (j = 0)) h.w h.f p).2 u C (by omega) (by omega) (by omega) p6 w1 (by omega) w2 c2.1 (xC_f c2 (by decide) (xC_fr b3 (xC_f a2 (by decide) tx))) (CK_ff c2 b4) c3 c4 c5
        rw [if_pos rfl]
        refine ⟨r, D, ?_, d2, FX_tr (FX_ff a2 (by decide)) (FX_tr (FX_fr b3) (FX_tr (FX_ff c2 (by decide)) d3)), d4⟩
        simp (maxDischargeDepth := 40) only [f_X4_carryOut_50, hL, gc_0, gc_1, gc_2, gc_3, gc_4, gc_5, Ly_put, kcf, kca, a1, A0, b1, b2, c1, nI_1, mCp_e, mC_e, mCv_e, mZ_0, mZ_1, mZ_ifb, if_true, if_false, n10, eq_self, reduceCtorEq, Bool.false_eq_true, Nat.add_zero, Nat.reduceAdd]
        exact d1
def hN0 : HS := (0, 0, 0, fun _ => 0, fun _ => 0, fun _ => 0, fun _ => 0)
theorem VH_0 : VH hN0 := (VK_new (c := 0) (by decide)).1
theorem x_carry {S : mS} {n : Nat} {b : Nat → Nat} (hL : Ly S) (hn : n ≤ 150) (hb : ∀ j, j < n → b j < 128) (tx : xC S n b) : ∃ r S1, f_X4_carryOut (nI 59) (nI 15) S = some (r, S1) ∧ Ly S1 ∧ FX S S1 ∧ xR S1 r (pL n b 200 0 hN0 0 0).1 (pL n b 200 0 hN0 0 0).2 := by
  obtain ⟨A, a1, a2, a3, a4⟩ := x_begin (o := 15) (c := 0) (Or.inr rfl) hL
  have f3 : Ff 2 5 A (mPut A 59 3 0) := Ff_put a2 (by decide) (by decide) (by decide)
  have tA := xC_fr a4 tx
  obtain ⟨C, c1, c2, c3, c4, c5, -⟩ := x_next f3.1 hn hb (Nat.zero_le n) (xC_f f3 (by decide) tA) (by rw [mPut_g, if_pos ⟨rfl, rfl⟩]; rfl)
  obtain ⟨r, D, d1, d2, d3, d4⟩ := x_co16 hn hb 200 0 hN0 0 0 1000 C (by omega) (by decide) (Nat.le_refl 0) (Nat.zero_le n) VH_0 (by show 0 ≤ 33 * 0; decide) (by decide) c2.1 (xC_f c2 (by decide) (xC_f f3 (by decide) tA)) (CK_ff c2 (CK_ff f3 a3)) c3 c4 c5
  refine ⟨r, D, ?_, d2, FX_tr (FX_fr a4) (FX_tr (FX_ff f3 (by decide)) (FX_tr (FX_ff c2 (by decide)) d3)), d4⟩
  have a1z : f_X5_begin (nI 15) 0 S = some A := a1
  simp (maxDischargeDepth := 40) only [f_X4_carryOut, hL, gc_0, gc_1, gc_2, gc_3, gc_4, gc_5, Ly_put, kcf, kca, a1z, a2, c1, mCp_e, mC_e, mCv_e, mZ_0, mZ_1, mZ_ifb, if_true, if_false, n10, eq_self, reduceCtorEq, Bool.false_eq_true, Nat.add_zero, Nat.reduceAdd]
  exact d1
theorem ng10 : ∀ q, q < 151 → ((-10 - nI q : Int32) < 0) ∧ (nI q < 0) = False := by decide +kernel
theorem TC_fx {S S1 : mS} (f : FX S S1) : TC S S1 := ⟨f.1, fun k hk => f.2.1 k (by omega), f.2.2.1, by rw [f.2.1 61 (by omega)], f.2.2.2⟩
/-- read of the class: what the text tells, or nothing -/
theorem x_read {S : mS} {n : Nat} {b : Nat → Nat} (hL : Ly S) (hn : n ≤ 150) (hb : ∀ j, j < n → b j < 128) (tx : xC S n b) : ∃ r S1, f_X6_read (nI 0) S = some (r, S1) ∧ Ly S1 ∧ TC S S1 ∧ (((pL n b 200 0 hN0 0 0).1 = none ∧ r = -10 - nI (pL n b 200 0 hN0 0 0).2 ∧ ∀ q, 1 ≤ q → q < 15 → S1.2.1 q = S.2.1 q) ∨ ∃ h c, (pL n b 200 0 hN0 0 0).1 = some (h, c) ∧ r = nI (pL n b 200 0 hN0 0 0).2 ∧ CK S1 1 (kOf h c) ∧ VK (kOf h c)) := by
  obtain ⟨r, A, a1, a2, a3, q1, a4⟩ := x_carry hL hn hb tx
  have ng := ng10 _ (show (pL n b 200 0 hN0 0 0).2 < 151 by omega)
  rcases a4 with ⟨e1, e2⟩ | ⟨h, c, e1, e2, e3, e4, e5, e6⟩
  · have lt : (r < 0) = True := by rw [e2]; exact eq_true ng.1
    refine ⟨r, A, ?_, a2, TC_fx a3, Or.inl ⟨e1, e2, fun q x y => a3.2.1 q (by omega)⟩⟩
    simp (maxDischargeDepth := 40) only [f_X6_read, f_X6_read_27, hL, gc_0, gc_1, gc_2, gc_3, gc_4, gc_5, Ly_put, kcf, kca, a1, lt, mCp_e, mC_e, mCv_e, mZ_0, mZ_1, mZ_ifb, if_true, if_false, n10, eq_self, reduceCtorEq, Bool.false_eq_true, Nat.add_zero, Nat.reduceAdd]
  · have lt : (r < 0) = False := by rw [e2]; exact ng.2
    have vk : VK (kOf h c) := ⟨e4, e5, e6, ⟨by show 0 ≤ 5; decide, fun i hi => absurd hi (Nat.not_lt_zero i)⟩, ⟨by show 0 ≤ 6; decide, fun i hi => absurd hi (Nat.not_lt_zero i)⟩, ⟨by show 0 ≤ 6; decide, fun i hi => absurd hi (Nat.not_lt_zero i)⟩, VP_0 _ _⟩
    obtain ⟨B, b1, b2, b3, b4⟩ := x_sc_1_15 a2 vk e3
    refine ⟨r, B, ?_, b2, TC_tr (TC_fx a3) (TC_fr b4 (by omega)), Or.inr ⟨h, c, e1, e2, b3, vk⟩⟩
    simp (maxDischargeDepth := 40) only [f_X6_read, f_X6_read_27, hL, gc_0, gc_1, gc_2, gc_3, gc_4, gc_5, Ly_put, kcf, kca, a1, lt, a2, b1, mCp_e, mC_e, mCv_e, mZ_0, mZ_1, mZ_ifb, if_true, if_false, n10, eq_self, reduceCtorEq, Bool.false_eq_true, Nat.add_zero, Nat.reduceAdd]
