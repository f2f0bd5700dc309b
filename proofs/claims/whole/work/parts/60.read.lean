/-! read, the reference's side: the whole TEXT; read of both -/
theorem nI_lt1 {a : Nat} (h : a < 2147483648) : (nI a < 1) = (a < 1) := lt_i (b := 1) h (by decide)
theorem y_i39 {S : mS} {n p k : Nat} {b : Nat → Nat} {h : HS} {c : Nat} (hL : Ly S) (hn : n ≤ 150) (hb : ∀ j, j < n → b j < 128) (hp : p ≤ n) (ty : yC S n b) (h7 : S.2.1 83 17 = nI (tS n b p)) (mk : MK S (kOf h c)) (hv : VH h) (ht : h.t ≤ 9900) (hk : tK n b p = k) (m1 : mayB k h.w h.f false = true) (k5 : 5 ≤ k) (k8 : k ≤ 8) : ∃ S1, f_X7_readsItem_39 (nI 83) (nI (k - 4)) S = some (if (pI1 n b k h.w (tE n b p)).1 = true then 1 else 0, S1) ∧ yO S S1 (pI1 n b k h.w (tE n b p)) (pX k (tV n b (tE n b p)) (tV n b (tE n b (tE n b p))) h c) := by
  have ts := tS_le (b := b) hp
  have te := (tE_le (b := b) hp)
  have ws := y_ws hL hn hb ts.2 ty h7
  have ew := tE_w (n := n) (b := b) (q := p) (by omega)
  have es : nI (tS n b p) + nI (rn (isL b) n (tS n b p) - tS n b p) = nI (tE n b p) := by rw [nI_add, ew.1]; congr 1; rw [← ew.1]; omega
  have f7 : Fn S (mPut S 83 17 (nI (tE n b p))) := Fn_17 hL
  have A7 : (mPut S 83 17 (nI (tE n b p))).2.1 83 17 = nI (tE n b p) := by rw [mPut_g, if_pos ⟨rfl, rfl⟩]
  have tA := yC_n f7 ty
  have mkA := MK_n f7 mk
  generalize hA : mPut S 83 17 (nI (tE n b p)) = A at *
  have A0 := f7.1
  rcases (show k = 5 ∨ k = 6 ∨ k = 7 ∨ k = 8 by omega) with rfl | rfl | rfl | rfl
  · have z1 : (!false && decide (h.w < 3)) = true := m1
    rw [Bool.and_eq_true, decide_eq_true_eq] at z1
    obtain ⟨B, b1, b2, b3, b4, b5⟩ := y_one (h := h) (c := c) false A0 hn hb te.2 tA A7 mkA (fun _ => z1.2) (fun z => Bool.noConfusion z)
    refine ⟨B, ?_, b2, FY_tr (FY_n f7) b3, b4, b5⟩
    simp (maxDischargeDepth := 40) only [f_X7_readsItem_39, f_X7_readsItem_87, f_X7_readsItem_90, hL, gc_0, gc_1, gc_2, gc_3, gc_4, gc_5, Ly_put, kcf, kca, h7, ws, es, hA, ntab, Nat.reduceSub, A0, show f_X7_readsOne (nI 83) 0 A = _ from b1, mCp_e, mC_e, mCv_e, mZ_0, mZ_1, mZ_ifb, if_true, if_false, n10, eq_self, reduceCtorEq, Bool.false_eq_true, Nat.add_zero, Nat.reduceAdd]
  · have z1 : (!false && decide (h.f < 7)) = true := m1
    rw [Bool.and_eq_true, decide_eq_true_eq] at z1
    obtain ⟨B, b1, b2, b3, b4, b5⟩ := y_one (h := h) (c := c) true A0 hn hb te.2 tA A7 mkA (fun z => Bool.noConfusion z) (fun _ => z1.2)
    refine ⟨B, ?_, b2, FY_tr (FY_n f7) b3, b4, b5⟩
    simp (maxDischargeDepth := 40) only [f_X7_readsItem_39, f_X7_readsItem_87, f_X7_readsItem_90, hL, gc_0, gc_1, gc_2, gc_3, gc_4, gc_5, Ly_put, kcf, kca, h7, ws, es, hA, ntab, Nat.reduceSub, A0, show f_X7_readsOne (nI 83) 1 A = _ from b1, mCp_e, mC_e, mCv_e, mZ_0, mZ_1, mZ_ifb, if_true, if_false, n10, eq_self, reduceCtorEq, Bool.false_eq_true, Nat.add_zero, Nat.reduceAdd]
  · obtain ⟨B, b1, b2, b3, b4, b5⟩ := y_rcall (h := h) (c := c) A0 hn hb te.2 tA A7 mkA hv ht
    refine ⟨B, ?_, b2, FY_tr (FY_n f7) b3, b4, b5⟩
    simp (maxDischargeDepth := 40) only [f_X7_readsItem_39, f_X7_readsItem_87, f_X7_readsItem_90, hL, gc_0, gc_1, gc_2, gc_3, gc_4, gc_5, Ly_put, kcf, kca, h7, ws, es, hA, ntab, Nat.reduceSub, A0, b1, mCp_e, mC_e, mCv_e, mZ_0, mZ_1, mZ_ifb, if_true, if_false, n10, eq_self, reduceCtorEq, Bool.false_eq_true, Nat.add_zero, Nat.reduceAdd]
  · obtain ⟨B, b1, b2, b3, b4, b5⟩ := y_rsteps (h := h) (c := c) (v2 := tV n b (tE n b (tE n b p))) A0 hn hb te.2 tA A7 mkA ht
    refine ⟨B, ?_, b2, FY_tr (FY_n f7) b3, b4, b5⟩
    simp (maxDischargeDepth := 40) only [f_X7_readsItem_39, f_X7_readsItem_87, f_X7_readsItem_90, hL, gc_0, gc_1, gc_2, gc_3, gc_4, gc_5, Ly_put, kcf, kca, h7, ws, es, hA, ntab, Nat.reduceSub, A0, b1, mCp_e, mC_e, mCv_e, mZ_0, mZ_1, mZ_ifb, if_true, if_false, n10, eq_self, reduceCtorEq, Bool.false_eq_true, Nat.add_zero, Nat.reduceAdd]
theorem y_item {S : mS} {n p : Nat} {b : Nat → Nat} {h : HS} {c : Nat} (hL : Ly S) (hn : n ≤ 150) (hb : ∀ j, j < n → b j < 128) (hp : p ≤ n) (ty : yC S n b) (h7 : S.2.1 83 17 = nI (tS n b p)) (mk : MK S (kOf h c)) (hv : VH h) (ht : h.t ≤ 9900) : ∃ S1, f_X7_readsItem (nI 83) S = some (if (pI n b false h.w h.f p).1 = true then 1 else 0, S1) ∧ yO S S1 (pI n b false h.w h.f p) (pX (tK n b p) (tV n b (tE n b p)) (tV n b (tE n b (tE n b p))) h c) := by
  have wh := y_wh hL hn hb hp ty h7
  have k9 := tK_lt (n := n) (b := b) (p := p)
  have g1 : S.2.1 83 1 = nI h.w := mk.2.1.1
  have g2 : S.2.1 83 2 = nI h.f := mk.2.1.2.1
  have hw := hv.1
  have hf := hv.2.1
  have w3 : (nI h.w = 3) = (h.w = 3) := eq_i (b := 3) (by omega) (by decide)
  have f7 : (nI h.f = 7) = (h.f = 7) := eq_i (b := 7) (by omega) (by decide)
  by_cases k5 : 5 ≤ tK n b p
  · rw [if_pos (by omega)] at wh
    have l1 : (nI (tK n b p - 4) < 1) = False := by rw [nI_lt1 (by omega)]; exact eq_false (by omega)
    cases m : mayB (tK n b p) h.w h.f false with
    | false =>
      have pe : pI n b false h.w h.f p = (false, tS n b p) := by unfold pI; rw [m]; rfl
      rw [pe]
      refine ⟨S, ?_, hL, FY_rf, h7, fun z => Bool.noConfusion z⟩
      rcases (show tK n b p = 5 ∨ tK n b p = 6 ∨ tK n b p = 7 ∨ tK n b p = 8 by omega) with e | e | e | e <;> rw [e] at m wh l1
      · have z1 : (!false && decide (h.w < 3)) = false := m
        have ge : (h.w = 3) = True := eq_true (by
          rcases Nat.lt_or_ge h.w 3 with y | y
          · rw [decide_eq_true y] at z1; cases z1
          · omega)
        simp (maxDischargeDepth := 40) only [f_X7_readsItem, f_X7_readsItem_37, hL, gc_0, gc_1, gc_2, gc_3, gc_4, gc_5, Ly_put, kcf, kca, wh, l1, ntab, Nat.reduceSub, g1, w3, ge, mCp_e, mC_e, mCv_e, mZ_0, mZ_1, mZ_ifb, if_true, if_false, n10, eq_self, reduceCtorEq, Bool.false_eq_true, Nat.add_zero, Nat.reduceAdd]
      · have z1 : (!false && decide (h.f < 7)) = false := m
        have ge : (h.f = 7) = True := eq_true (by
          rcases Nat.lt_or_ge h.f 7 with y | y
          · rw [decide_eq_true y] at z1; cases z1
          · omega)
        simp (maxDischargeDepth := 40) only [f_X7_readsItem, f_X7_readsItem_23, f_X7_readsItem_37, hL, gc_0, gc_1, gc_2, gc_3, gc_4, gc_5, Ly_put, kcf, kca, wh, l1, ntab, Nat.reduceSub, g2, f7, ge, mCp_e, mC_e, mCv_e, mZ_0, mZ_1, mZ_ifb, if_true, if_false, n10, eq_self, reduceCtorEq, Bool.false_eq_true, Nat.add_zero, Nat.reduceAdd]
      · exact Bool.noConfusion (show true = false from m)
      · exact Bool.noConfusion (show true = false from m)
    | true =>
      have pe : pI n b false h.w h.f p = pI1 n b (tK n b p) h.w (tE n b p) := by unfold pI; rw [m]; rfl
      rw [pe]
      obtain ⟨A, a1, a2⟩ := y_i39 hL hn hb hp ty h7 mk hv ht rfl m k5 (by omega)
      refine ⟨A, ?_, a2⟩
      refine Eq.trans ?_ a1
      rcases (show tK n b p = 5 ∨ tK n b p = 6 ∨ tK n b p = 7 ∨ tK n b p = 8 by omega) with e | e | e | e <;> rw [e] at m wh l1 ⊢
      · have z1 : (!false && decide (h.w < 3)) = true := m
        rw [Bool.and_eq_true, decide_eq_true_eq] at z1
        have ge : (h.w = 3) = False := eq_false (by omega)
        simp (maxDischargeDepth := 40) only [f_X7_readsItem, f_X7_readsItem_23, hL, gc_0, gc_1, gc_2, gc_3, gc_4, gc_5, Ly_put, kcf, kca, wh, l1, ntab, Nat.reduceSub, g1, w3, ge, mCp_e, mC_e, mCv_e, mZ_0, mZ_1, mZ_ifb, if_true, if_false, n10, eq_self, reduceCtorEq, Bool.false_eq_true, Nat.add_zero, Nat.reduceAdd]
      · have z1 : (!false && decide (h.f < 7)) = true := m
        rw [Bool.and_eq_true, decide_eq_true_eq] at z1
        have ge : (h.f = 7) = False := eq_false (by omega)
        simp (maxDischargeDepth := 40) only [f_X7_readsItem, f_X7_readsItem_23, hL, gc_0, gc_1, gc_2, gc_3, gc_4, gc_5, Ly_put, kcf, kca, wh, l1, ntab, Nat.reduceSub, g2, f7, ge, mCp_e, mC_e, mCv_e, mZ_0, mZ_1, mZ_ifb, if_true, if_false, n10, eq_self, reduceCtorEq, Bool.false_eq_true, Nat.add_zero, Nat.reduceAdd]
      · simp (maxDischargeDepth := 40) only [f_X7_readsItem, f_X7_readsItem_23, hL, gc_0, gc_1, gc_2, gc_3, gc_4, gc_5, Ly_put, kcf, kca, wh, l1, ntab, Nat.reduceSub, mCp_e, mC_e, mCv_e, mZ_0, mZ_1, mZ_ifb, if_true, if_false, n10, eq_self, reduceCtorEq, Bool.false_eq_true, Nat.add_zero, Nat.reduceAdd]
      · simp (maxDischargeDepth := 40) only [f_X7_readsItem, f_X7_readsItem_23, hL, gc_0, gc_1, gc_2, gc_3, gc_4, gc_5, Ly_put, kcf, kca, wh, l1, ntab, Nat.reduceSub, mCp_e, mC_e, mCv_e, mZ_0, mZ_1, mZ_ifb, if_true, if_false, n10, eq_self, reduceCtorEq, Bool.false_eq_true, Nat.add_zero, Nat.reduceAdd]
  · have m : mayB (tK n b p) h.w h.f false = false := by
      rcases (show tK n b p = 0 ∨ tK n b p = 1 ∨ tK n b p = 2 ∨ tK n b p = 3 ∨ tK n b p = 4 by omega) with e | e | e | e | e <;> rw [e] <;> rfl
    have pe : pI n b false h.w h.f p = (false, tS n b p) := by unfold pI; rw [m]; rfl
    rw [pe]
    refine ⟨S, ?_, hL, FY_rf, h7, fun z => Bool.noConfusion z⟩
    by_cases k4 : 4 ≤ tK n b p
    · rw [if_pos k4, show tK n b p - 4 = 0 by omega] at wh
      have l1 : (nI 0 < 1) = True := eq_true (by decide)
      simp (maxDischargeDepth := 40) only [f_X7_readsItem, f_X7_readsItem_37, hL, gc_0, gc_1, gc_2, gc_3, gc_4, gc_5, Ly_put, kcf, kca, wh, l1, mCp_e, mC_e, mCv_e, mZ_0, mZ_1, mZ_ifb, if_true, if_false, n10, eq_self, reduceCtorEq, Bool.false_eq_true, Nat.add_zero, Nat.reduceAdd]
    · rw [if_neg k4] at wh
      have l1 : ((-1 : Int32) < 1) = True := eq_true (by decide)
      simp (maxDischargeDepth := 40) only [f_X7_readsItem, f_X7_readsItem_37, hL, gc_0, gc_1, gc_2, gc_3, gc_4, gc_5, Ly_put, kcf, kca, wh, l1, mCp_e, mC_e, mCv_e, mZ_0, mZ_1, mZ_ifb, if_true, if_false, n10, eq_self, reduceCtorEq, Bool.false_eq_true, Nat.add_zero, Nat.reduceAdd]
theorem y_first {S : mS} {n : Nat} {b : Nat → Nat} (hL : Ly S) (hn : n ≤ 150) (hb : ∀ j, j < n → b j < 128) (ty : yC S n b) (h7 : S.2.1 83 17 = nI 0) : ∃ S1, f_X7_readsFirst (nI 83) S = some (if (pI n b true 0 0 0).1 = true then 1 else 0, S1) ∧ yO S S1 (pI n b true 0 0 0) (pX (tK n b 0) (tV n b (tE n b 0)) (tV n b (tE n b (tE n b 0))) hN0 0) := by
  have p0 := Nat.zero_le n
  obtain ⟨A, a1, a2, a3⟩ := y_skip hL hn hb p0 ty h7
  have A0 := a2.1
  have tA := yC_n a2 ty
  have wh := y_wh A0 hn hb p0 tA a3
  have k9 := tK_lt (n := n) (b := b) (p := 0)
  by_cases k4 : tK n b 0 = 4
  · have m : mayB (tK n b 0) 0 0 true = true := by rw [k4]; rfl
    have pe : pI n b true 0 0 0 = pI1 n b 4 0 (tE n b 0) := by unfold pI; rw [m, k4]; rfl
    have te := (tE_le (b := b) p0)
    have e4 := tE_4 k4
    rw [if_pos (by omega), k4] at wh
    have wh0 : f_X7_wordHere (nI 83) A = some (nI 0) := wh
    rw [pe, k4]
    have es : nI (tS n b 0) + 4 = nI (tE n b 0) := by rw [e4]; exact nI_add _ 4
    have f7 : Fn A (mPut A 83 17 (nI (tE n b 0))) := Fn_17 A0
    have B7 : (mPut A 83 17 (nI (tE n b 0))).2.1 83 17 = nI (tE n b 0) := by rw [mPut_g, if_pos ⟨rfl, rfl⟩]
    have tB := yC_n f7 tA
    generalize hB : mPut A 83 17 (nI (tE n b 0)) = B at *
    have B0 := f7.1
    obtain ⟨C, c1, c2, c3, c4⟩ := y_num (lo := 0) (hi := 24) (c := decide (tV n b (tE n b 0) < 25)) B0 hn hb te.2 tB B7 (fun g => yin_d (N := 25) (tV_lt te.2 g).1 (by decide))
    have C0 := c2.1
    by_cases g : tK n b (tE n b 0) = 1 ∧ decide (tV n b (tE n b 0) < 25) = true
    · obtain ⟨C7, C8⟩ := c3 g
      rw [if_pos g] at c1
      obtain ⟨D, d1, d2, d3, d4⟩ := y_begin (c := tV n b (tE n b 0)) C0
      have l1 := (tE_le (b := b) te.2).2
      obtain ⟨E, e1, e2, e3⟩ := y_ends d2 hn hb l1 (yC_y (FY_8 d4) (yC_n c2 tB)) ((d4.2.2.1 17 (by decide) (by decide)).trans C7)
      have p1 : pI1 n b 4 0 (tE n b 0) = pI3 n b (tE n b (tE n b 0)) := by
        unfold pI1
        rw [if_pos (show tK n b (tE n b 0) = 1 ∧ fsN 4 0 (tV n b (tE n b 0)) = true from g), if_pos (show (4 = 4 ∨ 4 = 8) by decide)]
      rw [p1]
      refine ⟨E, ?_, e2.1, FY_tr (FY_n a2) (FY_tr (FY_n f7) (FY_tr (FY_n c2) (FY_tr (FY_8 d4) (FY_n e2)))), e3, fun _ => MK_n e2 d3⟩
      simp (maxDischargeDepth := 40) only [f_X7_readsFirst, hL, gc_0, gc_1, gc_2, gc_3, gc_4, gc_5, Ly_put, kcf, kca, a1, A0, wh0, ntab, a3, es, hB, B0, c1, C0, C8, d1, d2, e1, mCp_e, mC_e, mCv_e, mZ_0, mZ_1, mZ_ifb, if_true, if_false, n10, eq_self, reduceCtorEq, Bool.false_eq_true, Nat.add_zero, Nat.reduceAdd]
    · have c4 := c4 g
      rw [if_neg g] at c1
      have p1 : pI1 n b 4 0 (tE n b 0) = (false, tS n b (tE n b 0)) := by
        unfold pI1
        rw [if_neg (show ¬ (tK n b (tE n b 0) = 1 ∧ fsN 4 0 (tV n b (tE n b 0)) = true) from g)]
      rw [p1]
      refine ⟨C, ?_, C0, FY_tr (FY_n a2) (FY_tr (FY_n f7) (FY_n c2)), c4, fun z => Bool.noConfusion z⟩
      simp (maxDischargeDepth := 40) only [f_X7_readsFirst, hL, gc_0, gc_1, gc_2, gc_3, gc_4, gc_5, Ly_put, kcf, kca, a1, A0, wh0, ntab, a3, es, hB, B0, c1, mCp_e, mC_e, mCv_e, mZ_0, mZ_1, mZ_ifb, if_true, if_false, n10, eq_self, reduceCtorEq, Bool.false_eq_true, Nat.add_zero, Nat.reduceAdd]
  · have m : mayB (tK n b 0) 0 0 true = false := by
      rcases c9 k9 with e | e | e | e | e | e | e | e | e <;> first | exact absurd e k4 | (rw [e]; rfl)
    have pe : pI n b true 0 0 0 = (false, tS n b 0) := by unfold pI; rw [m]; rfl
    rw [pe]
    refine ⟨A, ?_, A0, FY_n a2, a3, fun z => Bool.noConfusion z⟩
    by_cases k5 : 4 ≤ tK n b 0
    · rw [if_pos k5] at wh
      have l1 : (nI (tK n b 0 - 4) = 0) = False := by rw [show (0 : Int32) = nI 0 from rfl, eq_i (by omega) (by decide)]; exact eq_false (by omega)
      simp (maxDischargeDepth := 40) only [f_X7_readsFirst, hL, gc_0, gc_1, gc_2, gc_3, gc_4, gc_5, Ly_put, kcf, kca, a1, A0, wh, l1, mCp_e, mC_e, mCv_e, mZ_0, mZ_1, mZ_ifb, if_true, if_false, n10, eq_self, reduceCtorEq, Bool.false_eq_true, Nat.add_zero, Nat.reduceAdd]
    · rw [if_neg k5] at wh
      have l1 : ((-1 : Int32) = 0) = False := eq_false (by decide)
      simp (maxDischargeDepth := 40) only [f_X7_readsFirst, hL, gc_0, gc_1, gc_2, gc_3, gc_4, gc_5, Ly_put, kcf, kca, a1, A0, wh, l1, mCp_e, mC_e, mCv_e, mZ_0, mZ_1, mZ_ifb, if_true, if_false, n10, eq_self, reduceCtorEq, Bool.false_eq_true, Nat.add_zero, Nat.reduceAdd]
def yR (S1 : mS) (r : Int32) (o : Option (HS × Nat)) (q : Nat) : Prop := (o = none ∧ r = -1 ∧ S1.2.1 83 17 = nI q) ∨ ∃ h c, o = some (h, c) ∧ r = nI q ∧ q < 2147483648 ∧ MK S1 (kOf h c)
theorem y_rf20 {n : Nat} {b : Nat → Nat} (hn : n ≤ 150) (hb : ∀ j, j < n → b j < 128) : ∀ m j h c p u S, n - p < m → m ≤ u → 0 < j → j ≤ p → p ≤ n → VH h → h.t ≤ 33 * p → c < 25 → Ly S → yC S n b → MK S (kOf h c) → S.2.1 83 17 = nI (tS n b p) → ∃ r S1, f_X7_readsFell_20 f_X7_readsFell_50 u (nI 83) (nI j) S = some (r, S1) ∧ Ly S1 ∧ FY S S1 ∧ yR S1 r (pL n b m j h c p).1 (pL n b m j h c p).2 := by
  intro m
  induction m with
  | zero => intro j h c p u S h1; omega
  | succ m ih =>
    intro j h c p u S hm hu hj hjp hp hv ht hc hL ty mk h7
    obtain ⟨u, rfl⟩ : ∃ w, u = w + 1 := ⟨u - 1, by omega⟩
    have ts := tS_le (b := b) hp
    have e1 := ty.1
    have le : (nI n ≤ nI (tS n b p)) = (n ≤ tS n b p) := le_i (by omega) (by omega)
    rw [f_X7_readsFell_20_s, pL]
    have dj : decide (j = 0) = false := decide_eq_false (by omega)
    rw [dj]
    by_cases e : tK n b p = 0
    · have l1 : (n ≤ tS n b p) = True := eq_true (tK_0.mp e)
      rw [if_pos (show j ≠ 0 ∧ tK n b p = 0 from ⟨by omega, e⟩)]
      refine ⟨nI j, S, ?_, hL, FY_rf, Or.inr ⟨h, c, rfl, rfl, show j < 2147483648 by omega, mk⟩⟩
      simp (maxDischargeDepth := 40) only [hL, gc_0, gc_1, gc_2, gc_3, gc_4, gc_5, Ly_put, kcf, kca, h7, e1, le, l1, f_X7_readsFell_50, mCp_e, mC_e, mCv_e, mZ_0, mZ_1, mZ_ifb, if_true, if_false, n10, eq_self, reduceCtorEq, Bool.false_eq_true, Nat.add_zero, Nat.reduceAdd]
    · have l1 : (n ≤ tS n b p) = False := eq_false (fun z => e (tK_0.mpr z))
      rw [if_neg (show ¬ (j ≠ 0 ∧ tK n b p = 0) from fun z => e z.2)]
      obtain ⟨A, a1, a2, a3, a4, a5⟩ := y_item hL hn hb hp ty h7 mk hv (show h.t ≤ 9900 by omega)
      cases g : (pI n b false h.w h.f p).1 with
      | false =>
        rw [g] at a1
        rw [if_neg (show ¬ (false = true) by decide)]
        refine ⟨-1, A, ?_, a2, a3, Or.inl ⟨rfl, rfl, a4⟩⟩
        simp (maxDischargeDepth := 40) only [hL, gc_0, gc_1, gc_2, gc_3, gc_4, gc_5, Ly_put, kcf, kca, h7, e1, le, l1, a1, mCp_e, mC_e, mCv_e, mZ_0, mZ_1, mZ_ifb, if_true, if_false, n10, eq_self, reduceCtorEq, Bool.false_eq_true, Nat.add_zero, Nat.reduceAdd]
      | true =>
        obtain ⟨p1, p2, p3, p4, p5, p6⟩ := pI_ok hp g
        obtain ⟨k4, w1, w2, w3⟩ := pX_ok (c := c) hv hc (show h.t ≤ 9900 by omega) rfl rfl p1 p2 p3 p4
        rw [g] at a1
        have tA := yC_y a3 ty
        obtain ⟨B, b1, b2, b3⟩ := y_skip a2 hn hb p6 tA a4
        obtain ⟨r, D, d1, d2, d3, d4⟩ := ih (j + 1) (pX (tK n b p) (tV n b (tE n b p)) (tV n b (tE n b (tE n b p))) h c).1 (pX (tK n b p) (tV n b (tE n b p)) (tV n b (tE n b (tE n b p))) h c).2 (pI n b false h.w h.f p).2 u B (by omega) (by omega) (by omega) (by omega) p6 w1 (by omega) w2 b2.1 (yC_n b2 tA) (MK_n b2 (a5 g)) b3
        rw [if_pos (show true = true from rfl)]
        refine ⟨r, D, ?_, d2, FY_tr a3 (FY_tr (FY_n b2) d3), d4⟩
        simp (maxDischargeDepth := 40) only [hL, gc_0, gc_1, gc_2, gc_3, gc_4, gc_5, Ly_put, kcf, kca, h7, e1, le, l1, a1, a2, b1, nI_1, mCp_e, mC_e, mCv_e, mZ_0, mZ_1, mZ_ifb, if_true, if_false, n10, eq_self, reduceCtorEq, Bool.false_eq_true, Nat.add_zero, Nat.reduceAdd]
        exact d1
theorem y_rfell {S : mS} {n : Nat} {b : Nat → Nat} (hL : Ly S) (hn : n ≤ 150) (hb : ∀ j, j < n → b j < 128) (ty : yC S n b) : ∃ r S1, f_X7_readsFell (nI 83) S = some (r, S1) ∧ Ly S1 ∧ FY S S1 ∧ yR S1 r (pL n b 200 0 hN0 0 0).1 (pL n b 200 0 hN0 0 0).2 := by
  have f7 : Fn S (mPut S 83 17 0) := Fn_17 hL
  obtain ⟨A, a1, a2, a3, a4, a5⟩ := y_first f7.1 hn hb (yC_n f7 ty) (by rw [mPut_g, if_pos ⟨rfl, rfl⟩]; rfl)
  rw [pL, if_neg (show ¬ (0 ≠ 0 ∧ tK n b 0 = 0) from fun z => z.1 rfl), show decide (0 = 0) = true from rfl]
  have p0 := Nat.zero_le n
  cases g : (pI n b true hN0.w hN0.f 0).1 with
  | false =>
    rw [show (pI n b true 0 0 0).1 = false from g] at a1
    rw [if_neg (show ¬ (false = true) by decide)]
    refine ⟨-1, A, ?_, a2, FY_tr (FY_n f7) a3, Or.inl ⟨rfl, rfl, a4⟩⟩
    simp (maxDischargeDepth := 40) only [f_X7_readsFell, hL, gc_0, gc_1, gc_2, gc_3, gc_4, gc_5, Ly_put, kcf, kca, a1, mCp_e, mC_e, mCv_e, mZ_0, mZ_1, mZ_ifb, if_true, if_false, n10, eq_self, reduceCtorEq, Bool.false_eq_true, Nat.add_zero, Nat.reduceAdd]
  | true =>
    obtain ⟨p1, p2, p3, p4, p5, p6⟩ := pI_ok p0 g
    obtain ⟨k4, w1, w2, w3⟩ := pX_ok (c := 0) VH_0 (by decide) (show (0 : Nat) ≤ 9900 by decide) rfl rfl p1 p2 p3 p4
    rw [show (pI n b true 0 0 0).1 = true from g] at a1
    have tA := yC_y a3 (yC_n f7 ty)
    have w3' : (pX (tK n b 0) (tV n b (tE n b 0)) (tV n b (tE n b (tE n b 0))) hN0 0).1.t ≤ 0 + 99 := w3
    obtain ⟨B, b1, b2, b3⟩ := y_skip a2 hn hb p6 tA a4
    obtain ⟨r, D, d1, d2, d3, d4⟩ := y_rf20 hn hb 199 1 _ _ (pI n b true hN0.w hN0.f 0).2 1000 B (by omega) (by decide) (by decide) (by omega) p6 w1 (by omega) w2 b2.1 (yC_n b2 tA) (MK_n b2 (a5 g)) b3
    rw [if_pos (show true = true from rfl)]
    refine ⟨r, D, ?_, d2, FY_tr (FY_n f7) (FY_tr a3 (FY_tr (FY_n b2) d3)), d4⟩
    simp (maxDischargeDepth := 40) only [f_X7_readsFell, hL, gc_0, gc_1, gc_2, gc_3, gc_4, gc_5, Ly_put, kcf, kca, a1, a2, b1, mCp_e, mC_e, mCv_e, mZ_0, mZ_1, mZ_ifb, if_true, if_false, n10, eq_self, reduceCtorEq, Bool.false_eq_true, Nat.add_zero, Nat.reduceAdd]
    exact d1
theorem MK_21 {S : mS} {h : HS} {c : Nat} (m : MK S (kOf h c)) : MK (mPut S 83 21 0) (kOf h c) := by
  obtain ⟨c1, ⟨a1, a2, a3, a4, a5⟩, c3, c4, c5, c6⟩ := m
  have g : ∀ j, j ≠ 21 → (mPut S 83 21 0).2.1 83 j = S.2.1 83 j := fun j hj => by rw [mPut_g, if_neg (fun z => hj z.2)]
  have r : ∀ q, q ≠ 83 → (mPut S 83 21 0).2.1 q = S.2.1 q := fun q hq => mPut_r _ _ _ _ _ hq
  exact ⟨(g 3 (by decide)).trans c1, ⟨(g 1 (by decide)).trans a1, (g 2 (by decide)).trans a2, (g 4 (by decide)).trans a3, fun i hi => by rw [r 85 (by decide), r 86 (by decide)]; exact a4 i hi, fun i hi => by rw [r 87 (by decide), r 88 (by decide)]; exact a5 i hi⟩, RR_f (g _ (by decide)) (r _ (by decide)) c3, RR_f (g _ (by decide)) (r _ (by decide)) c4, RR_f (g _ (by decide)) (r _ (by decide)) c5, RP_0 (by rw [mPut_g, if_pos ⟨rfl, rfl⟩]; rfl)⟩
theorem y_read {S : mS} {k : KS} {n : Nat} {b : Nat → Nat} (hL : Ly S) (v : VK k) (mk : MK S k) (hn : n ≤ 150) (hb : ∀ j, j < n → b j < 128) (ty : yC S n b) : ((pL n b 200 0 hN0 0 0).1 = none → ∃ S1, f_X7_read (nI 83) S = some (-10 - nI (pL n b 200 0 hN0 0 0).2, S1) ∧ Ly S1 ∧ MK S1 k ∧ TM S S1) ∧ ∀ h c, (pL n b 200 0 hN0 0 0).1 = some (h, c) → ∃ S1, f_X7_read (nI 83) S = some (nI (pL n b 200 0 hN0 0 0).2, S1) ∧ Ly S1 ∧ MK S1 (kOf h c) ∧ TM S S1 := by
  obtain ⟨A, a1, a2, a3, a4, a5⟩ := y_layAll (a := 93) (t := 0) hL v mk rfl (Or.inl rfl) (by decide)
  have a1z : f_X7_layAll (nI 83) (nI 93) 0 S = some A := a1
  have tmA : TM S A := TM_fr a3 (Or.inr ⟨by decide, by decide⟩)
  have tA : yC A n b := ⟨by rw [a3.2.1 83 (by omega)]; exact ty.1, fun j hj => by rw [a3.2.1 92 (by omega)]; exact ty.2 j hj⟩
  obtain ⟨r, B, b1, b2, b3, b4⟩ := y_rfell a2 hn hb tA
  constructor
  · intro e
    rcases b4 with ⟨e1, rfl, e3⟩ | ⟨h, c, e1, -⟩
    · have miB : MI B 93 0 k := MI_sa b3.2 a4
      obtain ⟨W, w1, w2, w3, w4, w5, w6⟩ := y_takeAll (a := 93) (t := 0) b2 v miB rfl (Or.inl rfl) (by decide)
      have w1z : f_X7_takeAll (nI 83) (nI 93) 0 B = some W := w1
      have W7 : W.2.1 83 17 = nI (pL n b 200 0 hN0 0 0).2 := (w5 17 (by decide) (by decide)).trans e3
      have tmW : TM B W := ⟨w2.1.trans b2.1.symm, fun q hq => w4 q (by omega), w5 16 (by decide) (by decide), fun j _ => by rw [w6]⟩
      refine ⟨W, ?_, w2, w3, TM_tr tmA (TM_tr b3.1 tmW)⟩
      have l1 : ((0 : Int32) ≤ -1) = False := eq_false (by decide)
      simp (maxDischargeDepth := 40) only [f_X7_read, hL, gc_0, gc_1, gc_2, gc_3, gc_4, gc_5, Ly_put, kcf, kca, a1z, a2, b1, l1, b2, w1z, w2, W7, mCp_e, mC_e, mCv_e, mZ_0, mZ_1, mZ_ifb, if_true, if_false, n10, eq_self, reduceCtorEq, Bool.false_eq_true, Nat.add_zero, Nat.reduceAdd]
    · rw [e] at e1
      cases e1
  · intro h c e
    rcases b4 with ⟨e1, -⟩ | ⟨h', c', e1, rfl, e3, e4⟩
    · rw [e] at e1
      cases e1
    · rw [e] at e1
      cases e1
      have l1 : ((0 : Int32) ≤ nI (pL n b 200 0 hN0 0 0).2) = True := eq_true (by rw [show (0 : Int32) = nI 0 from rfl, le_i (by decide) e3]; omega)
      refine ⟨mPut B 83 21 0, ?_, Ly_put b2 (by decide), MK_21 e4, TM_tr tmA (TM_tr b3.1 (TM_put (Or.inl ⟨rfl, by decide⟩)))⟩
      simp (maxDischargeDepth := 40) only [f_X7_read, hL, gc_0, gc_1, gc_2, gc_3, gc_4, gc_5, Ly_put, kcf, kca, a1z, a2, b1, l1, b2, mCp_e, mC_e, mCv_e, mZ_0, mZ_1, mZ_ifb, if_true, if_false, n10, eq_self, reduceCtorEq, Bool.false_eq_true, Nat.add_zero, Nat.reduceAdd]
theorem o_read {S : mS} (H : Inv S) : Agr (f_X6_read (nI 0)) (f_X7_read (nI 83)) S := by
  obtain ⟨k, I⟩ := Inv_k H
  have hL := I.1
  have hv : VH k.h := I.2.1.1
  have hr : RH S 2 k.h := I.2.2.1.2.1
  have hm : MK S k := I.2.2.2.1
  have hq : RM S k.h := hm.2.1
  have ho : HO 2 := Or.inl rfl
  have hw := hv.1
  have hf := hv.2.1
  have w7 : k.h.w ≤ 7 := by omega
  obtain ⟨⟨n, b, t1, t2, t3, t4, t5⟩, -⟩ := I.2.2.2.2
  have tx : xC S n b := ⟨t3, fun j hj => (t5 j hj).1⟩
  have ty : ∀ S1 : mS, (∀ q, 83 ≤ q → S1.2.1 q = S.2.1 q) → yC S1 n b := fun S1 h => ⟨by rw [h 83 (by decide)]; exact t4, fun j hj => by rw [h 92 (by decide)]; exact (t5 j hj).2⟩
  obtain ⟨r, A, a1, a2, a3, a4⟩ := x_read hL t1 t2 tx
  rcases a4 with ⟨e1, rfl, e3⟩ | ⟨h, c, e1, rfl, e3, e4⟩
  · exact Agr_k2 I (k' := k) I.2.1 ⟨A, a1, a2, CK_sa (fun q x y => e3 q (by omega) (by omega)) I.2.2.1, a3⟩ (fun S1 hL1 hm1 hq1 => (y_read hL1 I.2.1 hm1 t1 t2 (ty S1 hq1)).1 e1)
  · exact Agr_k2 I (k' := kOf h c) e4 ⟨A, a1, a2, e3, a3⟩ (fun S1 hL1 hm1 hq1 => (y_read hL1 I.2.1 hm1 t1 t2 (ty S1 hq1)).2 h c e1)
