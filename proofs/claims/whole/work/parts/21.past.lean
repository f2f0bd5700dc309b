/-! the past -/
def shP (p : RW) : RW := if p.1 < 8 then p else (7, fun k c => p.2 (k + 1) c)
def adP (h : HS) (p : RW) : RW := (p.1 + 1, fun k c => if k = p.1 then (if c = 0 then h.t else if c < 4 then h.wc (c - 1) else h.sc (c - 4)) else p.2 k c)
theorem shP_lt (p : RW) : (shP p).1 < 8 := by
  unfold shP
  split
  · assumption
  · show 7 < 8
    decide
theorem RP_ad {S S1 : mS} {q j a b w f : Nat} {h : HS} {p : RW} (r : RP S q j a b w f p) (hw : w ≤ 3) (hf : f ≤ 7) (h1 : S1.2.1 q j = nI (p.1 + 1)) (h2 : ∀ i, i < 11 * p.1 → S1.2.1 a (b + i) = S.2.1 a (b + i)) (h3 : S1.2.1 a (b + 11 * p.1) = nI h.t) (h4 : ∀ i, i < w → S1.2.1 a (b + 11 * p.1 + 1 + i) = nI (h.wc i)) (h5 : ∀ i, i < f → S1.2.1 a (b + 11 * p.1 + 4 + i) = nI (h.sc i)) : RP S1 q j a b w f (adP h p) := by
  refine ⟨h1, fun k hk => ?_⟩
  have hk' : k < p.1 + 1 := hk
  by_cases e : k = p.1
  · subst e
    refine ⟨?_, fun i hi => ?_, fun i hi => ?_⟩
    · show _ = nI (if p.1 = p.1 then (if 0 = 0 then h.t else _) else _)
      rw [if_pos rfl, if_pos rfl]
      exact h3
    · show _ = nI (if p.1 = p.1 then (if 1 + i = 0 then h.t else if 1 + i < 4 then h.wc (1 + i - 1) else h.sc (1 + i - 4)) else _)
      rw [if_pos rfl, if_neg (by omega), if_pos (by omega), Nat.add_sub_cancel_left]
      exact h4 i hi
    · show _ = nI (if p.1 = p.1 then (if 4 + i = 0 then h.t else if 4 + i < 4 then h.wc (4 + i - 1) else h.sc (4 + i - 4)) else _)
      rw [if_pos rfl, if_neg (by omega), if_neg (by omega), Nat.add_sub_cancel_left]
      exact h5 i hi
  · have g := r.2 k (by omega)
    refine ⟨?_, fun i hi => ?_, fun i hi => ?_⟩
    · show _ = nI (if k = p.1 then _ else p.2 k 0)
      rw [if_neg e, h2 _ (by omega)]
      exact g.1
    · show _ = nI (if k = p.1 then _ else p.2 k (1 + i))
      rw [if_neg e, Nat.add_assoc, Nat.add_assoc, h2 _ (by omega), ← Nat.add_assoc, ← Nat.add_assoc]
      exact g.2.1 i hi
    · show _ = nI (if k = p.1 then _ else p.2 k (4 + i))
      rw [if_neg e, Nat.add_assoc, Nat.add_assoc, h2 _ (by omega), ← Nat.add_assoc, ← Nat.add_assoc]
      exact g.2.2 i hi
theorem RP_sh {S S1 : mS} {q j a b w f : Nat} {p : RW} (r : RP S q j a b w f p) (hw : w ≤ 3) (hf : f ≤ 7) (h8 : p.1 = 8) (h1 : S1.2.1 q j = nI 7) (h2 : ∀ i, i < 77 → S1.2.1 a (b + i) = S.2.1 a (b + (11 + i))) : RP S1 q j a b w f (shP p) := by
  unfold shP
  rw [if_neg (by omega)]
  refine ⟨h1, fun k hk => ?_⟩
  have hk' : k < 7 := hk
  have g := r.2 (k + 1) (by omega)
  refine ⟨?_, fun i hi => ?_, fun i hi => ?_⟩
  · rw [h2 _ (by omega), show 11 + 11 * k = 11 * (k + 1) by omega]
    exact g.1
  · rw [Nat.add_assoc, Nat.add_assoc, h2 _ (by omega), show b + (11 + (11 * k + (1 + i))) = b + 11 * (k + 1) + 1 + i by omega]
    exact g.2.1 i hi
  · rw [Nat.add_assoc, Nat.add_assoc, h2 _ (by omega), show b + (11 + (11 * k + (4 + i))) = b + 11 * (k + 1) + 4 + i by omega]
    exact g.2.2 i hi
theorem VP_ad {h : HS} {p : RW} (hv : VH h) (ht : h.t ≤ 9999) (vp : VP h.w h.f p) (hp : p.1 < 8) : VP h.w h.f (adP h p) := by
  refine ⟨hp, fun k hk => ?_⟩
  have hk' : k < p.1 + 1 := hk
  by_cases e : k = p.1
  · refine ⟨?_, fun i hi => ?_, fun i hi => ?_⟩
    · show (if k = p.1 then (if 0 = 0 then h.t else _) else _) ≤ 9999
      rw [if_pos e, if_pos rfl]
      exact ht
    · show (if k = p.1 then (if 1 + i = 0 then h.t else if 1 + i < 4 then h.wc (1 + i - 1) else h.sc (1 + i - 4)) else _) < 25
      have := hv.1
      rw [if_pos e, if_neg (by omega), if_pos (by omega), Nat.add_sub_cancel_left]
      exact (hv.2.2.2.1 i hi).2
    · show (if k = p.1 then (if 4 + i = 0 then h.t else if 4 + i < 4 then h.wc (4 + i - 1) else h.sc (4 + i - 4)) else _) < 25
      rw [if_pos e, if_neg (by omega), if_neg (by omega), Nat.add_sub_cancel_left]
      exact (hv.2.2.2.2 i hi).2
  · have g := vp.2 k (by omega)
    refine ⟨?_, fun i hi => ?_, fun i hi => ?_⟩
    · show (if k = p.1 then _ else p.2 k 0) ≤ 9999
      rw [if_neg e]
      exact g.1
    · show (if k = p.1 then _ else p.2 k (1 + i)) < 25
      rw [if_neg e]
      exact g.2.1 i hi
    · show (if k = p.1 then _ else p.2 k (4 + i)) < 25
      rw [if_neg e]
      exact g.2.2 i hi
theorem VP_sh {w f : Nat} {p : RW} (vp : VP w f p) : VP w f (shP p) := by
  unfold shP
  split
  · exact vp
  · have := vp.1
    refine ⟨by show 7 ≤ 8; decide, fun k hk => vp.2 (k + 1) ?_⟩
    have hk' : k < 7 := hk
    omega
def pushK (k : KS) : KS := setP k (adP k.h (shP k.past))
theorem VK_push {k : KS} (v : VK k) : VK (pushK k) := ⟨v.1, v.2.1, v.2.2.1, v.2.2.2.1, v.2.2.2.2.1, v.2.2.2.2.2.1, VP_ad v.1 v.2.1 (VP_sh v.2.2.2.2.2.2) (shP_lt _)⟩
theorem cy_i {S : mS} {ρ : Type} {k k2 a b n : Nat} {K : mS → Option ρ} (hL : Ly S) (h2 : mKd k = 8) (h3 : mKd k2 = 8) (g1 : a + n ≤ mLn k) (g2 : b + n ≤ mLn k2) : mCy (nI k) (nI a) (nI k2) (nI b) (nI n) S K = K (mRow S k2 (va_cpy (S.2.1 k) (S.2.1 k2) a b n)) := mCy_e hL.1 h2 h3 g1 g2
/-- the push, when there is room -/
theorem x_pu31 {S : mS} {h : HS} {p : RW} (hL : Ly S) (hr : RH S 2 h) (hv : VH h) (hp : RP S 13 1 14 0 h.w h.f p) (hn : p.1 < 8) : ∃ S1, f_X2_push_31 (nI 13) (nI 2) S = some S1 ∧ Ly S1 ∧ Fr 13 15 S S1 ∧ RP S1 13 1 14 0 h.w h.f (adP h p) := by
  have hw := hv.1
  have hf := hv.2.1
  obtain ⟨n, hnn⟩ : ∃ n, n = p.1 := ⟨_, rfl⟩
  rw [← hnn] at hn
  have e0 : S.2.1 13 1 = nI n := by rw [hnn]; exact hp.1
  have e1 : nI n * 11 = nI (n * 11) := nI_mul n 11
  have e2 : nI (n * 11 + 1) + 3 = nI (n * 11 + 4) := nI_add (n * 11 + 1) 3
  have b1 : n * 11 < 88 := by omega
  have hL1 : Ly (mPut S 14 (n * 11) (nI h.t)) := Ly_put hL (cst_arr (Or.inl rfl))
  have hL2 : Ly (mRow (mPut S 14 (n * 11) (nI h.t)) 14 (va_cpy ((mPut S 14 (n * 11) (nI h.t)).2.1 4) ((mPut S 14 (n * 11) (nI h.t)).2.1 14) 0 (n * 11 + 1) 3)) := Ly_row hL1 (fun _ => cst_arr (Or.inl rfl))
  generalize hT1 : mPut S 14 (n * 11) (nI h.t) = T1 at hL1 hL2
  generalize hT2 : mRow T1 14 (va_cpy (T1.2.1 4) (T1.2.1 14) 0 (n * 11 + 1) 3) = T2 at hL2
  have hL3 : Ly (mRow T2 14 (va_cpy (T2.2.1 6) (T2.2.1 14) 0 (n * 11 + 4) 7)) := Ly_row hL2 (fun _ => cst_arr (Or.inl rfl))
  generalize hT3 : mRow T2 14 (va_cpy (T2.2.1 6) (T2.2.1 14) 0 (n * 11 + 4) 7) = T3 at hL3
  have r1 : ∀ q, q ≠ 14 → T1.2.1 q = S.2.1 q := fun q hq => by rw [← hT1, mPut_r _ _ _ _ _ hq]
  have r2 : ∀ q, q ≠ 14 → T2.2.1 q = S.2.1 q := fun q hq => by rw [← hT2, mRow_r _ _ _ _ hq, r1 q hq]
  have r3 : ∀ q, q ≠ 14 → T3.2.1 q = S.2.1 q := fun q hq => by rw [← hT3, mRow_r _ _ _ _ hq, r2 q hq]
  have z : (0 : Int32) = nI 0 := rfl
  have c1 : ∀ (K : mS → Option mS), mCy (nI 4) 0 (nI 14) (nI (n * 11 + 1)) 3 T1 K = K T2 := fun K => by rw [← hT2]; exact cy_i (a := 0) (n := 3) hL1 rfl rfl (by decide) (show n * 11 + 1 + 3 ≤ 88 by omega)
  have c2 : ∀ (K : mS → Option mS), mCy (nI 6) 0 (nI 14) (nI (n * 11 + 4)) 7 T2 K = K T3 := fun K => by rw [← hT3]; exact cy_i (a := 0) (n := 7) hL2 rfl rfl (by decide) (show n * 11 + 4 + 7 ≤ 88 by omega)
  have b14 : ∀ i, T2.2.1 14 i = if n * 11 + 1 ≤ i ∧ i < n * 11 + 4 then S.2.1 4 (i - (n * 11 + 1)) else if i = n * 11 then nI h.t else S.2.1 14 i := fun i => by
    rw [← hT2, mRow_g, if_pos rfl, r1 4 (by decide)]
    show (if n * 11 + 1 ≤ i ∧ i < n * 11 + 1 + 3 then S.2.1 4 (0 + (i - (n * 11 + 1))) else T1.2.1 14 i) = _
    rw [← hT1, mPut_g, Nat.zero_add]
    simp (maxDischargeDepth := 40) only [true_and]
  have a14 : ∀ i, T3.2.1 14 i = if n * 11 + 4 ≤ i ∧ i < n * 11 + 11 then S.2.1 6 (i - (n * 11 + 4)) else if n * 11 + 1 ≤ i ∧ i < n * 11 + 4 then S.2.1 4 (i - (n * 11 + 1)) else if i = n * 11 then nI h.t else S.2.1 14 i := fun i => by
    rw [← hT3, mRow_g, if_pos rfl, r2 6 (by decide)]
    show (if n * 11 + 4 ≤ i ∧ i < n * 11 + 4 + 7 then S.2.1 6 (0 + (i - (n * 11 + 4))) else T2.2.1 14 i) = _
    rw [b14, Nat.zero_add]
  refine ⟨mPut T3 13 1 (nI (n + 1)), ?_, Ly_put hL3 (by decide), ?_, ?_⟩
  · have q1 : T2.2.1 13 1 = nI n := by rw [r2 13 (by decide)]; exact e0
    have q2 : T3.2.1 13 1 = nI n := by rw [r3 13 (by decide)]; exact e0
    simp (maxDischargeDepth := 40) only [f_X2_push_31, hL, gc_0, gc_1, gc_2, gc_3, gc_4, gc_5, Ly_put, kcf, kca, e0, hr.2.2.1, e1, b1, hT1, nI_1, hL1, c1, hL2, e2, c2, hL3, q2, mCp_e, mC_e, mCv_e, mZ_0, mZ_1, mZ_ifb, if_true, if_false, n10, eq_self, reduceCtorEq, Bool.false_eq_true, Nat.add_zero, Nat.reduceAdd]
  · exact ⟨by rw [← hT3, ← hT2, ← hT1]; rfl, fun q hq => by rw [mPut_r _ _ _ _ _ (by omega), r3 q (by omega)], by rw [← hT3, ← hT2, ← hT1]; rfl⟩
  · refine RP_ad hp hw hf (by rw [mPut_g, if_pos ⟨rfl, rfl⟩, hnn]) (fun i hi => ?_) ?_ (fun i hi => ?_) (fun i hi => ?_)
    · rw [mPut_r _ _ _ _ _ (by decide), a14, if_neg (by omega), if_neg (by omega), if_neg (by omega)]
    · rw [mPut_r _ _ _ _ _ (by decide), a14, if_neg (by omega), if_neg (by omega), if_pos (by omega)]
    · rw [mPut_r _ _ _ _ _ (by decide), a14, if_neg (by omega), if_pos (by omega), show 0 + 11 * p.1 + 1 + i - (n * 11 + 1) = i by omega]
      exact (hr.2.2.2.1 i hi).2
    · rw [mPut_r _ _ _ _ _ (by decide), a14, if_pos (by omega), show 0 + 11 * p.1 + 4 + i - (n * 11 + 4) = i by omega]
      exact (hr.2.2.2.2 i hi).2
theorem x_push {S : mS} {h : HS} {p : RW} (hL : Ly S) (hr : RH S 2 h) (hv : VH h) (hp : RP S 13 1 14 0 h.w h.f p) (hn : p.1 ≤ 8) : ∃ S1, f_X2_push (nI 13) (nI 2) S = some S1 ∧ Ly S1 ∧ Fr 13 15 S S1 ∧ RP S1 13 1 14 0 h.w h.f (adP h (shP p)) := by
  have lt : (nI p.1 < 8) = (p.1 < 8) := lt_i (b := 8) (by omega) (by decide)
  by_cases c : p.1 < 8
  · obtain ⟨S1, e, a1, a2, a3⟩ := x_pu31 hL hr hv hp c
    refine ⟨S1, by simp (maxDischargeDepth := 40) only [f_X2_push, hL, gc_0, gc_1, gc_2, gc_3, gc_4, gc_5, Ly_put, kcf, kca, hp.1, lt, c, e, mCp_e, mC_e, mCv_e, mZ_0, mZ_1, mZ_ifb, if_true, if_false, n10, eq_self, reduceCtorEq, Bool.false_eq_true, Nat.add_zero, Nat.reduceAdd], a1, a2, ?_⟩
    unfold shP
    rw [if_pos c]
    exact a3
  · have h8 : p.1 = 8 := by omega
    have hL1 : Ly (mRow S 14 (va_cpy (S.2.1 14) (S.2.1 14) 11 0 77)) := Ly_row hL (fun _ => cst_arr (Or.inl rfl))
    generalize hT : mRow S 14 (va_cpy (S.2.1 14) (S.2.1 14) 11 0 77) = T at hL1
    have r1 : ∀ q, q ≠ 14 → T.2.1 q = S.2.1 q := fun q hq => by rw [← hT, mRow_r _ _ _ _ hq]
    have c1 : ∀ (K : mS → Option mS), mCy (nI 14) 11 (nI 14) 0 77 S K = K T := fun K => by rw [← hT]; exact cy_i (a := 11) (b := 0) (n := 77) hL rfl rfl (by decide) (by decide)
    have hp2 : RP (mPut T 13 1 7) 13 1 14 0 h.w h.f (shP p) := RP_sh hp hv.1 hv.2.1 h8 (by rw [mPut_g, if_pos ⟨rfl, rfl⟩]; rfl) (fun i hi => by
      rw [mPut_r _ _ _ _ _ (by decide), ← hT, mRow_g, if_pos rfl]
      show (if 0 ≤ 0 + i ∧ 0 + i < 0 + 77 then S.2.1 14 (11 + (0 + i - 0)) else _) = _
      rw [if_pos (by omega), show 11 + (0 + i - 0) = 0 + (11 + i) by omega])
    have fr : Fr 13 15 S (mPut T 13 1 7) := ⟨by rw [← hT]; rfl, fun q hq => by rw [mPut_r _ _ _ _ _ (by omega), r1 q (by omega)], by rw [← hT]; rfl⟩
    have hL2 : Ly (mPut T 13 1 7) := Ly_put hL1 (by decide)
    obtain ⟨S1, e, a1, a2, a3⟩ := x_pu31 hL2 (RH_sa (fr.sa (by omega)) hr) hv hp2 (shP_lt p)
    exact ⟨S1, by simp (maxDischargeDepth := 40) only [f_X2_push, hL, gc_0, gc_1, gc_2, gc_3, gc_4, gc_5, Ly_put, kcf, kca, hp.1, lt, c, c1, hL1, e, mCp_e, mC_e, mCv_e, mZ_0, mZ_1, mZ_ifb, if_true, if_false, n10, eq_self, reduceCtorEq, Bool.false_eq_true, Nat.add_zero, Nat.reduceAdd], a1, Fr_tr fr a2, a3⟩
