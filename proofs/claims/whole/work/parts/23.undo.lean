/-! a step back, steps on -/
def poH (h : HS) (p : RW) : HS := (h.w, h.f, p.2 (p.1 - 1) 0, h.wk, fun i => p.2 (p.1 - 1) (1 + i), h.sk, fun i => p.2 (p.1 - 1) (4 + i))
def poP (p : RW) : RW := (p.1 - 1, p.2)
theorem VH_po {h : HS} {p : RW} (hv : VH h) (vp : VP h.w h.f p) (hp : 0 < p.1) : VH (poH h p) ∧ (poH h p).t ≤ 9999 := by
  have g := vp.2 (p.1 - 1) (by omega)
  have g1 : (poH h p).t ≤ 9999 := g.1
  exact ⟨⟨hv.1, hv.2.1, by omega, fun i hi => ⟨(hv.2.2.2.1 i hi).1, g.2.1 i hi⟩, fun i hi => ⟨(hv.2.2.2.2 i hi).1, g.2.2 i hi⟩⟩, g1⟩
theorem VP_po {w f : Nat} {p : RW} (vp : VP w f p) : VP w f (poP p) := ⟨Nat.le_trans (Nat.sub_le _ _) vp.1, fun k hk => vp.2 k (by have hk' : k < p.1 - 1 := hk; omega)⟩
theorem RP_po {S S1 : mS} {q j a b w f : Nat} {p : RW} (r : RP S q j a b w f p) (h1 : S1.2.1 q j = nI (p.1 - 1)) (h2 : S1.2.1 a = S.2.1 a) : RP S1 q j a b w f (poP p) := by
  refine ⟨h1, fun k hk => ?_⟩
  have hk' : k < p.1 - 1 := hk
  rw [h2]
  exact r.2 k (by omega)
theorem x_pop {S : mS} {h : HS} {p : RW} (hL : Ly S) (hr : RH S 2 h) (hv : VH h) (hp : RP S 13 1 14 0 h.w h.f p) (h8 : p.1 ≤ 8) (h0 : 0 < p.1) : ∃ S1, f_X2_pop (nI 13) (nI 2) S = some S1 ∧ Ly S1 ∧ RH S1 2 (poH h p) ∧ RP S1 13 1 14 0 h.w h.f (poP p) ∧ (∀ q, q ≠ 2 → q ≠ 4 → q ≠ 6 → q ≠ 13 → S1.2.1 q = S.2.1 q) ∧ S1.2.2 = S.2.2 := by
  have hw := hv.1
  have hf := hv.2.1
  obtain ⟨n, hn⟩ : ∃ n, p.1 = n + 1 := ⟨p.1 - 1, by omega⟩
  have le0 : (nI (n + 1) ≤ 0) = False := eq_false (nI_nle (by omega) (by omega))
  have e0 : S.2.1 13 1 = nI (n + 1) := by rw [← hn]; exact hp.1
  have e1 : nI n * 11 = nI (n * 11) := nI_mul n 11
  have e2 : nI (n * 11 + 1) + 3 = nI (n * 11 + 4) := nI_add (n * 11 + 1) 3
  have b1 : n * 11 < 88 := by omega
  have g := hp.2 n (by omega)
  rw [Nat.zero_add, Nat.mul_comm 11 n] at g
  have hLa : Ly (mPut S 13 1 (nI n)) := Ly_put hL (by decide)
  have hLb : Ly (mPut (mPut S 13 1 (nI n)) 2 6 (nI (p.2 n 0))) := Ly_put hLa (by decide)
  generalize hT1 : mPut (mPut S 13 1 (nI n)) 2 6 (nI (p.2 n 0)) = T1 at hLb
  have r1 : ∀ q, q ≠ 2 → q ≠ 13 → T1.2.1 q = S.2.1 q := fun q h1 h2 => by rw [← hT1, mPut_r _ _ _ _ _ h1, mPut_r _ _ _ _ _ h2]
  have hL2 : Ly (mRow T1 4 (va_cpy (T1.2.1 14) (T1.2.1 4) (n * 11 + 1) 0 3)) := Ly_row hLb (fun _ => cst_arr (Or.inl rfl))
  generalize hT2 : mRow T1 4 (va_cpy (T1.2.1 14) (T1.2.1 4) (n * 11 + 1) 0 3) = T2 at hL2
  have r2 : ∀ q, q ≠ 4 → T2.2.1 q = T1.2.1 q := fun q hq => by rw [← hT2, mRow_r _ _ _ _ hq]
  have hL3 : Ly (mRow T2 6 (va_cpy (T2.2.1 14) (T2.2.1 6) (n * 11 + 4) 0 7)) := Ly_row hL2 (fun _ => cst_arr (Or.inl rfl))
  generalize hT3 : mRow T2 6 (va_cpy (T2.2.1 14) (T2.2.1 6) (n * 11 + 4) 0 7) = T3 at hL3
  have r3 : ∀ q, q ≠ 6 → T3.2.1 q = T2.2.1 q := fun q hq => by rw [← hT3, mRow_r _ _ _ _ hq]
  have c1 : ∀ (K : mS → Option mS), mCy (nI 14) (nI (n * 11 + 1)) (nI 4) 0 3 T1 K = K T2 := fun K => by rw [← hT2]; exact cy_i (b := 0) (n := 3) hLb rfl rfl (show n * 11 + 1 + 3 ≤ 88 by omega) (by decide)
  have c2 : ∀ (K : mS → Option mS), mCy (nI 14) (nI (n * 11 + 4)) (nI 6) 0 7 T2 K = K T3 := fun K => by rw [← hT3]; exact cy_i (b := 0) (n := 7) hL2 rfl rfl (show n * 11 + 4 + 7 ≤ 88 by omega) (by decide)
  have ep : nI (n + 1) - 1 = nI n := nI_pred n
  have t13 : (mPut S 13 1 (nI n)).2.1 13 1 = nI n := by rw [mPut_g, if_pos ⟨rfl, rfl⟩]
  have t14 : (mPut S 13 1 (nI n)).2.1 14 (n * 11) = nI (p.2 n 0) := by rw [mPut_r _ _ _ _ _ (by decide)]; exact g.1
  have s2 : ∀ j, T3.2.1 2 j = if j = 6 then nI (p.2 n 0) else S.2.1 2 j := fun j => by
    rw [r3 2 (by decide), r2 2 (by decide), ← hT1, mPut_g, mPut_r _ _ _ _ _ (by decide)]
    simp (maxDischargeDepth := 40) only [true_and]
  have s13 : T3.2.1 13 1 = nI n := by rw [r3 13 (by decide), r2 13 (by decide), ← hT1, mPut_r _ _ _ _ _ (by decide)]; exact t13
  have s14 : T3.2.1 14 = S.2.1 14 := by rw [r3 14 (by decide), r2 14 (by decide), r1 14 (by decide) (by decide)]
  have s4 : ∀ i, i < 3 → T3.2.1 4 i = S.2.1 14 (n * 11 + 1 + i) := fun i hi => by
    rw [r3 4 (by decide), ← hT2, mRow_g, if_pos rfl, r1 14 (by decide) (by decide)]
    show (if 0 ≤ i ∧ i < 0 + 3 then S.2.1 14 (n * 11 + 1 + (i - 0)) else _) = _
    rw [if_pos (by omega), Nat.sub_zero]
  have s6 : ∀ i, i < 7 → T3.2.1 6 i = S.2.1 14 (n * 11 + 4 + i) := fun i hi => by
    rw [← hT3, mRow_g, if_pos rfl, r2 14 (by decide), r1 14 (by decide) (by decide)]
    show (if 0 ≤ i ∧ i < 0 + 7 then S.2.1 14 (n * 11 + 4 + (i - 0)) else _) = _
    rw [if_pos (by omega), Nat.sub_zero]
  have en : p.1 - 1 = n := by omega
  refine ⟨T3, ?_, hL3, ⟨?_, ?_, ?_, fun i hi => ⟨?_, ?_⟩, fun i hi => ⟨?_, ?_⟩⟩, RP_po hp (by rw [en]; exact s13) s14, fun q h1 h2 h3 h4 => by rw [r3 q h3, r2 q h2, r1 q h1 h4], by rw [← hT3, ← hT2, ← hT1]; rfl⟩
  · simp (maxDischargeDepth := 40) only [f_X2_pop, f_X2_pop_70, hL, gc_0, gc_1, gc_2, gc_3, gc_4, gc_5, Ly_put, kcf, kca, e0, le0, ep, hLa, t13, e1, b1, t14, hT1, hLb, nI_1, c1, hL2, e2, c2, hL3, mCp_e, mC_e, mCv_e, mZ_0, mZ_1, mZ_ifb, if_true, if_false, n10, eq_self, reduceCtorEq, Bool.false_eq_true, Nat.add_zero, Nat.reduceAdd]
  · rw [s2, if_neg (by decide)]
    exact hr.1
  · rw [s2, if_neg (by decide)]
    exact hr.2.1
  · rw [s2, if_pos rfl]
    show _ = nI (p.2 (p.1 - 1) 0)
    rw [en]
  · rw [r3 3 (by decide), r2 3 (by decide), r1 3 (by decide) (by decide)]
    exact (hr.2.2.2.1 i hi).1
  · rw [s4 i (by have : i < h.w := hi; omega)]
    show _ = nI (p.2 (p.1 - 1) (1 + i))
    rw [en]
    exact g.2.1 i hi
  · rw [r3 5 (by decide), r2 5 (by decide), r1 5 (by decide) (by decide)]
    exact (hr.2.2.2.2 i hi).1
  · rw [s6 i (by have : i < h.f := hi; omega)]
    show _ = nI (p.2 (p.1 - 1) (4 + i))
    rw [en]
    exact g.2.2 i hi
theorem o_undo {S : mS} (H : Inv S) : Agr (f_X6_undo (nI 0)) (f_X7_undo (nI 83)) S := by
  obtain ⟨k, I⟩ := Inv_k H
  have hL := I.1
  have hv : VH k.h := I.2.1.1
  have hr : RH S 2 k.h := I.2.2.1.2.1
  have hm : MK S k := I.2.2.2.1
  have hq : RM S k.h := hm.2.1
  have ho : HO 2 := Or.inl rfl
  have hw := hv.1
  have hf := hv.2.1
  have w7 : k.h.w ≤ 7 := by omega
  have P := I.2.2.1.2.2.2.2.2
  have vp := I.2.1.2.2.2.2.2.2
  have q1 : (nI k.past.1 = 0) = (k.past.1 = 0) := eq_i (b := 0) (by have := vp.1; omega) (by decide)
  by_cases c : k.past.1 = 0
  · have c0 : (k.past.1 = 0) = True := eq_true c
    exact Agr_ref (v := -3) 1 (by decide) I (by simp (maxDischargeDepth := 40) only [f_X6_undo, P.1, hL, gc_0, gc_1, gc_2, gc_3, gc_4, gc_5, Ly_put, kcf, kca, x_hasW _ ho hL hr w7, x_hasS _ ho hL hr hf, x_cell, x_kind, x_iscall, x_isimage, i_in, q1, c0, x_no hL, mCp_e, mC_e, mCv_e, mZ_0, mZ_1, mZ_ifb, if_true, if_false, n10, eq_self, reduceCtorEq, Bool.false_eq_true, Nat.add_zero, Nat.reduceAdd]) (fun S1 hL1 hm1 => by simp (maxDischargeDepth := 40) only [f_X7_undo, hm1.2.2.2.2.2.1, hL1, gc_0, gc_1, gc_2, gc_3, gc_4, gc_5, Ly_put, kcf, kca, y_hasW _ hL1 hm1.2.1 w7, y_hasS _ hL1 hm1.2.1 hf, y_cell, y_iscall, i_in, q1, c0, y_no hL1, mCp_e, mC_e, mCv_e, mZ_0, mZ_1, mZ_ifb, if_true, if_false, n10, eq_self, reduceCtorEq, Bool.false_eq_true, Nat.add_zero, Nat.reduceAdd])
  · have c0 : (k.past.1 = 0) = False := eq_false c
    obtain ⟨S1, x1, x2, x3, x4, x5, x6⟩ := x_pop hL hr hv P vp.1 (by omega)
    have vh := VH_po hv vp (by omega)
    have tc : TC S S1 := ⟨x2.1.trans hL.1.symm, fun q hq => x5 q (by omega) (by omega) (by omega) (by omega), by rw [x5 59 (by decide) (by decide) (by decide) (by decide)], by rw [x5 61 (by decide) (by decide) (by decide) (by decide)], x6⟩
    have ht1 : S1.2.1 2 6 = nI (poH k.h k.past).t := x3.2.2.1
    refine Agr_k I (k' := setP (setH k (poH k.h k.past)) (poP k.past)) (r := nI (poH k.h k.past).t) ⟨vh.1, vh.2, I.2.1.2.2.1, I.2.1.2.2.2.1, I.2.1.2.2.2.2.1, I.2.1.2.2.2.2.2.1, VP_po vp⟩ ⟨S1, by simp (maxDischargeDepth := 40) only [f_X6_undo, hL, gc_0, gc_1, gc_2, gc_3, gc_4, gc_5, Ly_put, kcf, kca, P.1, q1, c0, x1, x2, ht1, mCp_e, mC_e, mCv_e, mZ_0, mZ_1, mZ_ifb, if_true, if_false, n10, eq_self, reduceCtorEq, Bool.false_eq_true, Nat.add_zero, Nat.reduceAdd], x2, ?_, tc⟩ (fun S2 hL1 hm1 => ?_)
    · obtain ⟨c1, c2, c3, c4, c5, c6⟩ := I.2.2.1
      exact ⟨by rw [x5 1 (by decide) (by decide) (by decide) (by decide)]; exact c1, x3, RR_sa (x5 _ (by decide) (by decide) (by decide) (by decide)) (x5 _ (by decide) (by decide) (by decide) (by decide)) c3, RR_sa (x5 _ (by decide) (by decide) (by decide) (by decide)) (x5 _ (by decide) (by decide) (by decide) (by decide)) c4, RR_sa (x5 _ (by decide) (by decide) (by decide) (by decide)) (x5 _ (by decide) (by decide) (by decide) (by decide)) c5, x4⟩
    · obtain ⟨n, hn⟩ : ∃ n, k.past.1 = n + 1 := ⟨k.past.1 - 1, by omega⟩
      have n8 : n < 8 := by have := vp.1; omega
      have en : k.past.1 - 1 = n := by omega
      have M := hm1.2.2.2.2.2
      have g := M.2 n (by omega)
      rw [Nat.zero_add] at g
      have e21 : S2.2.1 83 21 = nI (n + 1) := by rw [← hn]; exact M.1
      have z1 : (nI (n + 1) = 0) = False := eq_false (nI_ne0 (by omega) (by omega))
      have ep : nI (n + 1) - 1 = nI n := nI_pred n
      have e11 : 11 * nI n = nI (11 * n) := nI_mul 11 n
      have hLa : Ly (mPut S2 83 21 (nI n)) := Ly_put hL1 (by decide)
      have t21 : (mPut S2 83 21 (nI n)).2.1 83 21 = nI n := by rw [mPut_g, if_pos ⟨rfl, rfl⟩]
      obtain ⟨S3, y1, y2, y3, y4, y5, y6⟩ := y_takes (a := 94) (at_ := 11 * n) hLa rfl (by decide) (show 11 * n + 11 ≤ 88 by omega)
      have r94 : (mPut S2 83 21 (nI n)).2.1 94 = S2.2.1 94 := mPut_r _ _ _ _ _ (by decide)
      rw [r94] at y4 y5 y6
      have fr : ∀ q, q ≠ 83 → q ≠ 86 → q ≠ 88 → S3.2.1 q = S2.2.1 q := fun q h1 h2 h3 => by rw [y3.2.1 q h1 h2 h3, mPut_r _ _ _ _ _ h1]
      have f83 : ∀ j, j ≠ 4 → j ≠ 21 → S3.2.1 83 j = S2.2.1 83 j := fun j h1 h2 => by rw [y3.2.2.1 j h1, mPut_g, if_neg (by omega)]
      have t4 : S3.2.1 83 4 = nI (poH k.h k.past).t := by rw [y4, g.1, ← en]; rfl
      refine ⟨S3, by simp (maxDischargeDepth := 40) only [f_X7_undo, hL1, gc_0, gc_1, gc_2, gc_3, gc_4, gc_5, Ly_put, kcf, kca, e21, z1, ep, hLa, t21, e11, y1, y2, t4, mCp_e, mC_e, mCv_e, mZ_0, mZ_1, mZ_ifb, if_true, if_false, n10, eq_self, reduceCtorEq, Bool.false_eq_true, Nat.add_zero, Nat.reduceAdd], y2, ?_, ⟨y3.1, fun q hq => fr q (by omega) (by omega) (by omega), f83 16 (by decide) (by decide), fun j _ => by rw [y3.2.2.2]; rfl⟩⟩
      obtain ⟨c1, c2, c3, c4, c5, c6⟩ := hm1
      obtain ⟨a1, a2, a3, a4, a5⟩ := c2
      refine ⟨(f83 3 (by decide) (by decide)).trans c1, ⟨(f83 1 (by decide) (by decide)).trans a1, (f83 2 (by decide) (by decide)).trans a2, t4, fun i hi => ⟨by rw [fr 85 (by decide) (by decide) (by decide)]; exact (a4 i hi).1, ?_⟩, fun i hi => ⟨by rw [fr 87 (by decide) (by decide) (by decide)]; exact (a5 i hi).1, ?_⟩⟩, RR_f (f83 _ (by decide) (by decide)) (fr _ (by decide) (by decide) (by decide)) c3, RR_f (f83 _ (by decide) (by decide)) (fr _ (by decide) (by decide) (by decide)) c4, RR_f (f83 _ (by decide) (by decide)) (fr _ (by decide) (by decide) (by decide)) c5, RP_po c6 ?_ (fr _ (by decide) (by decide) (by decide))⟩
      · rw [y5 i (by have : i < k.h.w := hi; omega), g.2.1 i hi, ← en]
        rfl
      · rw [y6 i (by have : i < k.h.f := hi; omega), g.2.2 i hi, ← en]
        rfl
      · rw [y3.2.2.1 21 (by decide), t21, en]
theorem o_steps {S : mS} (H : Inv S) (v1 : Int32) : Agr (f_X6_steps (nI 0) v1) (f_X7_steps (nI 83) v1) S := by
  obtain ⟨k, I⟩ := Inv_k H
  have hL := I.1
  have hv : VH k.h := I.2.1.1
  have hr : RH S 2 k.h := I.2.2.1.2.1
  have hm : MK S k := I.2.2.2.1
  have hq : RM S k.h := hm.2.1
  have ho : HO 2 := Or.inl rfl
  have hw := hv.1
  have hf := hv.2.1
  have w7 : k.h.w ≤ 7 := by omega
  have ht : k.h.t ≤ 9999 := I.2.1.2.1
  by_cases c : ¬ v1 < 1 ∧ ¬ 99 < v1
  · have c1 : (¬ v1 < 1 ∧ ¬ 99 < v1) = True := eq_true c
    obtain ⟨n, hn, rfl⟩ : ∃ n, n ≤ 99 ∧ v1 = nI n := nI_of2 (M := 99) (n := 99) rfl (fun z => c.1 (Int32.lt_trans z (by decide))) (Int32.not_lt.mp c.2)
    have h8 := I.2.1.2.2.2.2.2.2.1
    obtain ⟨S1, x1, x2, x3, x4⟩ := x_push hL hr hv I.2.2.1.2.2.2.2.2 h8
    have hr1 : RH S1 2 k.h := RH_sa (x3.sa (by omega)) hr
    have mn : mMin 9999 (nI k.h.t + nI n) = nI (min 9999 (k.h.t + n)) := by
      rw [nI_add]
      unfold mMin
      rw [show (9999 : Int32) = nI 9999 from rfl]
      simp (maxDischargeDepth := 40) only [lt_i (show k.h.t + n < 2147483648 by omega) (show 9999 < 2147483648 by decide)]
      by_cases l : k.h.t + n < 9999
      · rw [if_pos l, Nat.min_eq_right (by omega)]
      · rw [if_neg l, Nat.min_eq_left (by omega)]
    have ls : f_X7_lesser 9999 (nI k.h.t + nI n) = some (nI (min 9999 (k.h.t + n))) := by
      rw [nI_add]
      unfold f_X7_lesser f_X7_lesser_10
      rw [show (9999 : Int32) = nI 9999 from rfl]
      simp (maxDischargeDepth := 40) only [le_i (show k.h.t + n < 2147483648 by omega) (show 9999 < 2147483648 by decide)]
      by_cases l : k.h.t + n ≤ 9999
      · rw [if_pos l, Nat.min_eq_right l]
      · rw [if_neg l, Nat.min_eq_left (by omega)]
    have hL2 : Ly (mPut S1 2 6 (nI (min 9999 (k.h.t + n)))) := Ly_put x2 (by decide)
    refine Agr_k I (k' := setH (pushK k) (setT k.h (min 9999 (k.h.t + n)))) (r := nI (min 9999 (k.h.t + n))) ⟨⟨hv.1, hv.2.1, by show min 9999 (k.h.t + n) ≤ 20000; omega, hv.2.2.2.1, hv.2.2.2.2⟩, by show min 9999 (k.h.t + n) ≤ 9999; omega, I.2.1.2.2.1, I.2.1.2.2.2.1, I.2.1.2.2.2.2.1, I.2.1.2.2.2.2.2.1, (VK_push I.2.1).2.2.2.2.2.2⟩ ⟨mPut S1 2 6 (nI (min 9999 (k.h.t + n))), by simp (maxDischargeDepth := 40) only [f_X6_steps, x_in, c1, hL, gc_0, gc_1, gc_2, gc_3, gc_4, gc_5, Ly_put, kcf, kca, x1, x2, hr1.2.2.1, mn, hL2, mPut_g, Nat.reduceEqDiff, and_true, true_and, and_false, false_and, and_self, mCp_e, mC_e, mCv_e, mZ_0, mZ_1, mZ_ifb, if_true, if_false, n10, eq_self, reduceCtorEq, Bool.false_eq_true, Nat.add_zero, Nat.reduceAdd], hL2, CK_h (Fr_put (by decide) (by decide)) (CK_p x3 I.2.2.1 x4) (RH_T hr1) rfl rfl, TC_tr (TC_fr x3 (by omega)) (TC_put (by omega))⟩ (fun S3 hL1 hm1 => ?_)
    obtain ⟨S4, y1, y2, y3, y4⟩ := y_notes hL1 hm1.2.1 hv hm1.2.2.2.2.2 h8
    have hr2 : RM S4 k.h := RM_fn y3 hm1.2.1
    have hL5 : Ly (mPut S4 83 4 (nI (min 9999 (k.h.t + n)))) := Ly_put y2 (by decide)
    exact ⟨mPut S4 83 4 (nI (min 9999 (k.h.t + n))), by simp (maxDischargeDepth := 40) only [f_X7_steps, y_in, c1, hL1, gc_0, gc_1, gc_2, gc_3, gc_4, gc_5, Ly_put, kcf, kca, y1, y2, hr2.2.2.1, ls, hL5, mPut_g, Nat.reduceEqDiff, and_true, true_and, and_false, false_and, and_self, mCp_e, mC_e, mCv_e, mZ_0, mZ_1, mZ_ifb, if_true, if_false, n10, eq_self, reduceCtorEq, Bool.false_eq_true, Nat.add_zero, Nat.reduceAdd], hL5, MK_h (FM_put (by omega)) (MK_p y3 hm1 y4) (RM_T hr2) rfl rfl, TM_tr (FN_TM y3) (TM_put (by omega))⟩
  · have c1 : (¬ v1 < 1 ∧ ¬ 99 < v1) = False := eq_false c
    exact Agr_ref (v := -2) 0 (by decide) I (by simp (maxDischargeDepth := 40) only [f_X6_steps, x_in, c1, hL, gc_0, gc_1, gc_2, gc_3, gc_4, gc_5, Ly_put, kcf, kca, x_bad hL, mCp_e, mC_e, mCv_e, mZ_0, mZ_1, mZ_ifb, if_true, if_false, n10, eq_self, reduceCtorEq, Bool.false_eq_true, Nat.add_zero, Nat.reduceAdd]) (fun S1 hL1 hm1 => by simp (maxDischargeDepth := 40) only [f_X7_steps, y_in, c1, hL1, gc_0, gc_1, gc_2, gc_3, gc_4, gc_5, Ly_put, kcf, kca, y_bad hL1, mCp_e, mC_e, mCv_e, mZ_0, mZ_1, mZ_ifb, if_true, if_false, n10, eq_self, reduceCtorEq, Bool.false_eq_true, Nat.add_zero, Nat.reduceAdd])
