/-! one more whistle, one more sheep -/
def addW (h : HS) (a c : Nat) : HS := (h.w + 1, h.f, h.t, fun j => if j = h.w then a else h.wk j, fun j => if j = h.w then c else h.wc j, h.sk, h.sc)
def addS (h : HS) (a c : Nat) : HS := (h.w, h.f + 1, h.t, h.wk, h.wc, fun j => if j = h.f then a else h.sk j, fun j => if j = h.f then c else h.sc j)
theorem ifk {p : Prop} {i : Decidable p} {a b : Nat} {x : Int32} (h1 : p → x = nI a) (h2 : ¬ p → x = nI b) : x = nI (if p then a else b) := by
  by_cases h : p
  · rw [if_pos h, h1 h]
  · rw [if_neg h, h2 h]
theorem VH_aw {h : HS} {a c : Nat} (hv : VH h) (hw : h.w < 3) (ha : a < 6) (hc : c < 25) : VH (addW h a c) := by
  refine ⟨hw, hv.2.1, hv.2.2.1, fun j hj => ?_, hv.2.2.2.2⟩
  have hj' : j < h.w + 1 := hj
  show (if j = h.w then a else h.wk j) < 6 ∧ (if j = h.w then c else h.wc j) < 25
  by_cases e : j = h.w
  · rw [if_pos e, if_pos e]
    exact ⟨ha, hc⟩
  · rw [if_neg e, if_neg e]
    exact hv.2.2.2.1 j (by omega)
theorem VH_as {h : HS} {a c : Nat} (hv : VH h) (hw : h.f < 7) (ha : a < 6) (hc : c < 25) : VH (addS h a c) := by
  refine ⟨hv.1, hw, hv.2.2.1, hv.2.2.2.1, fun j hj => ?_⟩
  have hj' : j < h.f + 1 := hj
  show (if j = h.f then a else h.sk j) < 6 ∧ (if j = h.f then c else h.sc j) < 25
  by_cases e : j = h.f
  · rw [if_pos e, if_pos e]
    exact ⟨ha, hc⟩
  · rw [if_neg e, if_neg e]
    exact hv.2.2.2.2 j (by omega)
theorem x_addW {S : mS} {o a c : Nat} {h : HS} (ho : HO o) (hL : Ly S) (hr : RH S o h) (hw : h.w < 3) : ∃ S1, f_X1_addWhistle (nI o) (nI a) (nI c) S = some (nI h.w, S1) ∧ Ly S1 ∧ RH S1 o (addW h a c) ∧ Fr o (o + 5) S S1 := by
  obtain ⟨h1, h2, h3, h4, h5⟩ := hr
  have cf := hcf ho
  have e4 : (mPut (mPut S (o + 1) h.w (nI a)) (o + 2) h.w (nI c)).2.1 o 4 = nI h.w := by rw [mPut_r _ _ _ _ _ (by omega), mPut_r _ _ _ _ _ (by omega)]; exact h1
  have e4' : (mPut S (o + 1) h.w (nI a)).2.1 o 4 = nI h.w := by rw [mPut_r _ _ _ _ _ (by omega)]; exact h1
  have lt : (nI h.w < 3) = (h.w < 3) := lt_i (b := 3) (by omega) (by decide)
  have hL1 : Ly (mPut S (o + 1) h.w (nI a)) := Ly_put hL (cf.2.1 _)
  have hL2 : Ly (mPut (mPut S (o + 1) h.w (nI a)) (o + 2) h.w (nI c)) := Ly_put hL1 (cf.2.2.1 _)
  have hL3 : Ly (mPut (mPut (mPut S (o + 1) h.w (nI a)) (o + 2) h.w (nI c)) o 4 (nI (h.w + 1))) := Ly_put hL2 cf.1.1
  refine ⟨mPut (mPut (mPut S (o + 1) h.w (nI a)) (o + 2) h.w (nI c)) o 4 (nI (h.w + 1)), ?_, hL3, ?_, Fr_tr (Fr_tr (Fr_put (by omega) (by omega)) (Fr_put (by omega) (by omega))) (Fr_put (by omega) (by omega))⟩
  · simp (maxDischargeDepth := 40) only [f_X1_addWhistle, hgs ho hL, hgs ho hL1, hgs ho hL2, hgs ho hL3, h1, lt, hw, e4, e4', nI_1, mCp_e, mC_e, mCv_e, mZ_0, mZ_1, mZ_ifb, if_true, if_false, n10, eq_self, reduceCtorEq, Bool.false_eq_true, Nat.add_zero, Nat.reduceAdd]
    simp (maxDischargeDepth := 40) only [mPut_g, and_self, if_true, nI_pred]
  · refine ⟨by rw [mPut_g, if_pos ⟨rfl, rfl⟩]; rfl, by rw [mPut_g, if_neg (by omega), mPut_r _ _ _ _ _ (by omega), mPut_r _ _ _ _ _ (by omega)]; exact h2, by rw [mPut_g, if_neg (by omega), mPut_r _ _ _ _ _ (by omega), mPut_r _ _ _ _ _ (by omega)]; exact h3, fun j hj => ⟨?_, ?_⟩, fun j hj => ?_⟩
    · rw [mPut_r _ _ _ _ _ (by omega), mPut_r _ _ _ _ _ (by omega), mPut_g]
      refine ifk (fun e => by rw [if_pos ⟨rfl, e⟩]) (fun e => ?_)
      have hj' : j < h.w + 1 := hj
      rw [if_neg (fun z => e z.2)]
      exact (h4 j (by omega)).1
    · rw [mPut_r _ _ _ _ _ (by omega), mPut_g]
      refine ifk (fun e => by rw [if_pos ⟨rfl, e⟩]) (fun e => ?_)
      have hj' : j < h.w + 1 := hj
      rw [if_neg (fun z => e z.2), mPut_r _ _ _ _ _ (by omega)]
      exact (h4 j (by omega)).2
    · rw [mPut_r _ _ _ _ _ (by omega), mPut_r _ _ _ _ _ (by omega), mPut_r _ _ _ _ _ (by omega), mPut_r _ _ _ _ _ (by omega), mPut_r _ _ _ _ _ (by omega), mPut_r _ _ _ _ _ (by omega)]
      exact h5 j hj
theorem x_addS {S : mS} {o a c : Nat} {h : HS} (ho : HO o) (hL : Ly S) (hr : RH S o h) (hw : h.f < 7) : ∃ S1, f_X1_addSheep (nI o) (nI a) (nI c) S = some (nI h.f, S1) ∧ Ly S1 ∧ RH S1 o (addS h a c) ∧ Fr o (o + 5) S S1 := by
  obtain ⟨h1, h2, h3, h4, h5⟩ := hr
  have cf := hcf ho
  have e4 : (mPut (mPut S (o + 3) h.f (nI a)) (o + 4) h.f (nI c)).2.1 o 5 = nI h.f := by rw [mPut_r _ _ _ _ _ (by omega), mPut_r _ _ _ _ _ (by omega)]; exact h2
  have e4' : (mPut S (o + 3) h.f (nI a)).2.1 o 5 = nI h.f := by rw [mPut_r _ _ _ _ _ (by omega)]; exact h2
  have lt : (nI h.f < 7) = (h.f < 7) := lt_i (b := 7) (by omega) (by decide)
  have hL1 : Ly (mPut S (o + 3) h.f (nI a)) := Ly_put hL (cf.2.2.2.1 _)
  have hL2 : Ly (mPut (mPut S (o + 3) h.f (nI a)) (o + 4) h.f (nI c)) := Ly_put hL1 (cf.2.2.2.2 _)
  have hL3 : Ly (mPut (mPut (mPut S (o + 3) h.f (nI a)) (o + 4) h.f (nI c)) o 5 (nI (h.f + 1))) := Ly_put hL2 cf.1.2.1
  refine ⟨mPut (mPut (mPut S (o + 3) h.f (nI a)) (o + 4) h.f (nI c)) o 5 (nI (h.f + 1)), ?_, hL3, ?_, Fr_tr (Fr_tr (Fr_put (by omega) (by omega)) (Fr_put (by omega) (by omega))) (Fr_put (by omega) (by omega))⟩
  · simp (maxDischargeDepth := 40) only [f_X1_addSheep, hgs ho hL, hgs ho hL1, hgs ho hL2, hgs ho hL3, h2, lt, hw, e4, e4', nI_1, mCp_e, mC_e, mCv_e, mZ_0, mZ_1, mZ_ifb, if_true, if_false, n10, eq_self, reduceCtorEq, Bool.false_eq_true, Nat.add_zero, Nat.reduceAdd]
    simp (maxDischargeDepth := 40) only [mPut_g, and_self, if_true, nI_pred]
  · refine ⟨by rw [mPut_g, if_neg (by omega), mPut_r _ _ _ _ _ (by omega), mPut_r _ _ _ _ _ (by omega)]; exact h1, by rw [mPut_g, if_pos ⟨rfl, rfl⟩]; rfl, by rw [mPut_g, if_neg (by omega), mPut_r _ _ _ _ _ (by omega), mPut_r _ _ _ _ _ (by omega)]; exact h3, fun j hj => ?_, fun j hj => ⟨?_, ?_⟩⟩
    · rw [mPut_r _ _ _ _ _ (by omega), mPut_r _ _ _ _ _ (by omega), mPut_r _ _ _ _ _ (by omega), mPut_r _ _ _ _ _ (by omega), mPut_r _ _ _ _ _ (by omega), mPut_r _ _ _ _ _ (by omega)]
      exact h4 j hj
    · rw [mPut_r _ _ _ _ _ (by omega), mPut_r _ _ _ _ _ (by omega), mPut_g]
      refine ifk (fun e => by rw [if_pos ⟨rfl, e⟩]) (fun e => ?_)
      have hj' : j < h.f + 1 := hj
      rw [if_neg (fun z => e z.2)]
      exact (h5 j (by omega)).1
    · rw [mPut_r _ _ _ _ _ (by omega), mPut_g]
      refine ifk (fun e => by rw [if_pos ⟨rfl, e⟩]) (fun e => ?_)
      have hj' : j < h.f + 1 := hj
      rw [if_neg (fun z => e z.2), mPut_r _ _ _ _ _ (by omega)]
      exact (h5 j (by omega)).2
/-- the reference's: whistles or sheep more, nothing to take back -/
def F9 (S S1 : mS) : Prop := S1.1 = S.1 ∧ (∀ k, k < 83 ∨ k = 84 ∨ 89 ≤ k → S1.2.1 k = S.2.1 k) ∧ (∀ j, j ≠ 1 → j ≠ 2 → j ≠ 4 → j ≠ 21 → S1.2.1 83 j = S.2.1 83 j) ∧ S1.2.2 = S.2.2
theorem F9_TM {S S1 : mS} (f : F9 S S1) : TM S S1 := ⟨f.1, fun k hk => f.2.1 k (by omega), f.2.2.1 16 (by decide) (by decide) (by decide) (by decide), fun j _ => by rw [f.2.2.2]⟩
theorem MK_9 {S S1 : mS} {k : KS} {h : HS} (f : F9 S S1) (c : MK S k) (hr : RM S1 h) (h21 : S1.2.1 83 21 = nI 0) : MK S1 (setP (setH k h) rw0) := by
  obtain ⟨c1, c2, c3, c4, c5, c6⟩ := c
  exact ⟨(f.2.2.1 3 (by decide) (by decide) (by decide) (by decide)).trans c1, hr, RR_f (f.2.2.1 _ (by decide) (by decide) (by decide) (by decide)) (f.2.1 _ (by decide)) c3, RR_f (f.2.2.1 _ (by decide) (by decide) (by decide) (by decide)) (f.2.1 _ (by decide)) c4, RR_f (f.2.2.1 _ (by decide) (by decide) (by decide) (by decide)) (f.2.1 _ (by decide)) c5, RP_0 h21⟩
theorem y_addW {S : mS} {a c : Nat} {h : HS} (hL : Ly S) (hr : RM S h) (hw : h.w < 3) : ∃ S1, f_X7_addWhistle (nI 83) (nI a) (nI c) S = some (nI h.w, S1) ∧ Ly S1 ∧ RM S1 (addW h a c) ∧ F9 S S1 ∧ S1.2.1 83 21 = nI 0 := by
  obtain ⟨h1, h2, h3, h4, h5⟩ := hr
  refine ⟨mPut (mPut (mPut (mPut S 85 h.w (nI a)) 86 h.w (nI c)) 83 1 (nI (h.w + 1))) 83 21 0, ?_, ?_, ?_, ?_, ?_⟩
  · simp (maxDischargeDepth := 40) only [f_X7_addWhistle, hL, gc_0, gc_1, gc_2, gc_3, gc_4, gc_5, Ly_put, kcf, kca, h1, hw, nI_1, mPut_g, Nat.reduceEqDiff, and_true, true_and, and_false, false_and, and_self, mCp_e, mC_e, mCv_e, mZ_0, mZ_1, mZ_ifb, if_true, if_false, n10, eq_self, reduceCtorEq, Bool.false_eq_true, Nat.add_zero, Nat.reduceAdd, nI_pred]
  · simp (maxDischargeDepth := 40) only [hL, Ly_put, kcf, kca]
  · refine ⟨by simp (maxDischargeDepth := 40) only [mPut_g, Nat.reduceEqDiff, and_true, true_and, and_false, false_and, and_self, mCp_e, mC_e, mCv_e, mZ_0, mZ_1, mZ_ifb, if_true, if_false, n10, eq_self, reduceCtorEq, Bool.false_eq_true, Nat.add_zero, Nat.reduceAdd]; rfl, by simp (maxDischargeDepth := 40) only [mPut_g, Nat.reduceEqDiff, and_true, true_and, and_false, false_and, and_self, mCp_e, mC_e, mCv_e, mZ_0, mZ_1, mZ_ifb, if_true, if_false, n10, eq_self, reduceCtorEq, Bool.false_eq_true, Nat.add_zero, Nat.reduceAdd]; exact h2, by simp (maxDischargeDepth := 40) only [mPut_g, Nat.reduceEqDiff, and_true, true_and, and_false, false_and, and_self, mCp_e, mC_e, mCv_e, mZ_0, mZ_1, mZ_ifb, if_true, if_false, n10, eq_self, reduceCtorEq, Bool.false_eq_true, Nat.add_zero, Nat.reduceAdd]; exact h3, fun j hj => ⟨?_, ?_⟩, fun j hj => by simp (maxDischargeDepth := 40) only [mPut_r, ne_eq, not_false_eq_true, mPut_g, Nat.reduceEqDiff, and_true, true_and, and_false, false_and, and_self]; exact h5 j hj⟩
    · rw [mPut_r _ _ _ _ _ (by decide), mPut_r _ _ _ _ _ (by decide), mPut_r _ _ _ _ _ (by decide), mPut_g]
      refine ifk (fun e => by rw [if_pos ⟨rfl, e⟩]) (fun e => ?_)
      have hj' : j < h.w + 1 := hj
      rw [if_neg (fun z => e z.2)]
      exact (h4 j (by omega)).1
    · rw [mPut_r _ _ _ _ _ (by decide), mPut_r _ _ _ _ _ (by decide), mPut_g]
      refine ifk (fun e => by rw [if_pos ⟨rfl, e⟩]) (fun e => ?_)
      have hj' : j < h.w + 1 := hj
      rw [if_neg (fun z => e z.2), mPut_r _ _ _ _ _ (by decide)]
      exact (h4 j (by omega)).2
  · refine ⟨rfl, fun q hq => ?_, fun j n1 n2 n4 n21 => by simp (maxDischargeDepth := 40) only [mPut_g, Nat.reduceEqDiff, and_true, true_and, and_false, false_and, and_self, n1, n21, if_false], rfl⟩
    rw [mPut_r _ _ _ _ _ (by omega), mPut_r _ _ _ _ _ (by omega), mPut_r _ _ _ _ _ (by omega), mPut_r _ _ _ _ _ (by omega)]
  · simp (maxDischargeDepth := 40) only [mPut_g, Nat.reduceEqDiff, and_true, true_and, and_false, false_and, and_self, mCp_e, mC_e, mCv_e, mZ_0, mZ_1, mZ_ifb, if_true, if_false, n10, eq_self, reduceCtorEq, Bool.false_eq_true, Nat.add_zero, Nat.reduceAdd]
    rfl
theorem y_addS {S : mS} {a c : Nat} {h : HS} (hL : Ly S) (hr : RM S h) (hw : h.f < 7) : ∃ S1, f_X7_addSheep (nI 83) (nI a) (nI c) S = some (nI h.f, S1) ∧ Ly S1 ∧ RM S1 (addS h a c) ∧ F9 S S1 ∧ S1.2.1 83 21 = nI 0 := by
  obtain ⟨h1, h2, h3, h4, h5⟩ := hr
  refine ⟨mPut (mPut (mPut (mPut S 87 h.f (nI a)) 88 h.f (nI c)) 83 2 (nI (h.f + 1))) 83 21 0, ?_, ?_, ?_, ?_, ?_⟩
  · simp (maxDischargeDepth := 40) only [f_X7_addSheep, hL, gc_0, gc_1, gc_2, gc_3, gc_4, gc_5, Ly_put, kcf, kca, h2, hw, nI_1, mPut_g, Nat.reduceEqDiff, and_true, true_and, and_false, false_and, and_self, mCp_e, mC_e, mCv_e, mZ_0, mZ_1, mZ_ifb, if_true, if_false, n10, eq_self, reduceCtorEq, Bool.false_eq_true, Nat.add_zero, Nat.reduceAdd, nI_pred]
  · simp (maxDischargeDepth := 40) only [hL, Ly_put, kcf, kca]
  · refine ⟨by simp (maxDischargeDepth := 40) only [mPut_g, Nat.reduceEqDiff, and_true, true_and, and_false, false_and, and_self, mCp_e, mC_e, mCv_e, mZ_0, mZ_1, mZ_ifb, if_true, if_false, n10, eq_self, reduceCtorEq, Bool.false_eq_true, Nat.add_zero, Nat.reduceAdd]; exact h1, by simp (maxDischargeDepth := 40) only [mPut_g, Nat.reduceEqDiff, and_true, true_and, and_false, false_and, and_self, mCp_e, mC_e, mCv_e, mZ_0, mZ_1, mZ_ifb, if_true, if_false, n10, eq_self, reduceCtorEq, Bool.false_eq_true, Nat.add_zero, Nat.reduceAdd]; rfl, by simp (maxDischargeDepth := 40) only [mPut_g, Nat.reduceEqDiff, and_true, true_and, and_false, false_and, and_self, mCp_e, mC_e, mCv_e, mZ_0, mZ_1, mZ_ifb, if_true, if_false, n10, eq_self, reduceCtorEq, Bool.false_eq_true, Nat.add_zero, Nat.reduceAdd]; exact h3, fun j hj => by simp (maxDischargeDepth := 40) only [mPut_r, ne_eq, not_false_eq_true, mPut_g, Nat.reduceEqDiff, and_true, true_and, and_false, false_and, and_self]; exact h4 j hj, fun j hj => ⟨?_, ?_⟩⟩
    · rw [mPut_r _ _ _ _ _ (by decide), mPut_r _ _ _ _ _ (by decide), mPut_r _ _ _ _ _ (by decide), mPut_g]
      refine ifk (fun e => by rw [if_pos ⟨rfl, e⟩]) (fun e => ?_)
      have hj' : j < h.f + 1 := hj
      rw [if_neg (fun z => e z.2)]
      exact (h5 j (by omega)).1
    · rw [mPut_r _ _ _ _ _ (by decide), mPut_r _ _ _ _ _ (by decide), mPut_g]
      refine ifk (fun e => by rw [if_pos ⟨rfl, e⟩]) (fun e => ?_)
      have hj' : j < h.f + 1 := hj
      rw [if_neg (fun z => e z.2), mPut_r _ _ _ _ _ (by decide)]
      exact (h5 j (by omega)).2
  · refine ⟨rfl, fun q hq => ?_, fun j n1 n2 n4 n21 => by simp (maxDischargeDepth := 40) only [mPut_g, Nat.reduceEqDiff, and_true, true_and, and_false, false_and, and_self, n2, n21, if_false], rfl⟩
    rw [mPut_r _ _ _ _ _ (by omega), mPut_r _ _ _ _ _ (by omega), mPut_r _ _ _ _ _ (by omega), mPut_r _ _ _ _ _ (by omega)]
  · simp (maxDischargeDepth := 40) only [mPut_g, Nat.reduceEqDiff, and_true, true_and, and_false, false_and, and_self, mCp_e, mC_e, mCv_e, mZ_0, mZ_1, mZ_ifb, if_true, if_false, n10, eq_self, reduceCtorEq, Bool.false_eq_true, Nat.add_zero, Nat.reduceAdd]
    rfl
/-- nothing to take back any more -/
theorem CK_p0 {S : mS} {k : KS} {o : Nat} (c : CK S o k) : CK (mPut S (o + 12) 1 0) o (setP k rw0) := by
  obtain ⟨c1, c2, c3, c4, c5, c6⟩ := c
  exact ⟨by rw [mPut_r _ _ _ _ _ (by omega)]; exact c1, RH_sa (fun q a b => mPut_r _ _ _ _ _ (by omega)) c2, RR_sa (mPut_r _ _ _ _ _ (by omega)) (mPut_r _ _ _ _ _ (by omega)) c3, RR_sa (mPut_r _ _ _ _ _ (by omega)) (mPut_r _ _ _ _ _ (by omega)) c4, RR_sa (mPut_r _ _ _ _ _ (by omega)) (mPut_r _ _ _ _ _ (by omega)) c5, RP_0 (by rw [mPut_g, if_pos ⟨rfl, rfl⟩]; rfl)⟩
theorem CK_h0 {S S1 : mS} {k : KS} {o : Nat} {h : HS} (f : Fr (o + 1) (o + 6) S S1) (c : CK S o (setP k rw0)) (hr : RH S1 (o + 1) h) : CK S1 o (setP (setH k h) rw0) := by
  obtain ⟨c1, c2, c3, c4, c5, c6⟩ := c
  exact ⟨by rw [f.2.1 o (by omega)]; exact c1, hr, RR_sa (f.2.1 _ (by omega)) (f.2.1 _ (by omega)) c3, RR_sa (f.2.1 _ (by omega)) (f.2.1 _ (by omega)) c4, RR_sa (f.2.1 _ (by omega)) (f.2.1 _ (by omega)) c5, RP_0 (by rw [f.2.1 _ (by omega)]; exact c6.1)⟩
theorem eqN {a n : Nat} {x : Int32} (hx : x = nI n) (ha : a < 2147483648) (hn : n < 2147483648) : (nI a = x) = (a = n) := by
  subst hx
  exact eq_i ha hn
theorem o_whistle {S : mS} (H : Inv S) (v1 v2 : Int32) : Agr (f_X6_whistle (nI 0) v1 v2) (f_X7_whistle (nI 83) v1 v2) S := by
  obtain ⟨k, I⟩ := Inv_k H
  have hL := I.1
  have hv : VH k.h := I.2.1.1
  have hr : RH S 2 k.h := I.2.2.1.2.1
  have hm : MK S k := I.2.2.2.1
  have hq : RM S k.h := hm.2.1
  have ho : HO 2 := Or.inl rfl
  have hw := hv.1
  have hf := hv.2.1
  have w7 : k.h.w ≤ 7 := by omega
  cases c1 : dN 6 v1 with
  | false =>
    exact Agr_ref (v := -2) 0 (by decide) I (by simp (maxDischargeDepth := 40) only [f_X6_whistle, f_X6_whistle_14, hL, gc_0, gc_1, gc_2, gc_3, gc_4, gc_5, Ly_put, kcf, kca, x_hasW _ ho hL hr w7, x_hasS _ ho hL hr hf, x_cell, x_kind, x_iscall, x_isimage, i_in, c1, x_bad hL, mCp_e, mC_e, mCv_e, mZ_0, mZ_1, mZ_ifb, if_true, if_false, n10, eq_self, reduceCtorEq, Bool.false_eq_true, Nat.add_zero, Nat.reduceAdd]) (fun S1 hL1 hm1 => by simp (maxDischargeDepth := 40) only [f_X7_whistle, f_X7_whistle_16, f_X7_whistle_42, hL1, gc_0, gc_1, gc_2, gc_3, gc_4, gc_5, Ly_put, kcf, kca, y_hasW _ hL1 hm1.2.1 w7, y_hasS _ hL1 hm1.2.1 hf, y_cell, y_iscall, i_in, c1, y_bad hL1, mCp_e, mC_e, mCv_e, mZ_0, mZ_1, mZ_ifb, if_true, if_false, n10, eq_self, reduceCtorEq, Bool.false_eq_true, Nat.add_zero, Nat.reduceAdd])
  | true =>
    cases c2 : dN 25 v2 with
    | false =>
      exact Agr_ref (v := -2) 0 (by decide) I (by simp (maxDischargeDepth := 40) only [f_X6_whistle, f_X6_whistle_14, hL, gc_0, gc_1, gc_2, gc_3, gc_4, gc_5, Ly_put, kcf, kca, x_hasW _ ho hL hr w7, x_hasS _ ho hL hr hf, x_cell, x_kind, x_iscall, x_isimage, i_in, c1, c2, x_bad hL, mCp_e, mC_e, mCv_e, mZ_0, mZ_1, mZ_ifb, if_true, if_false, n10, eq_self, reduceCtorEq, Bool.false_eq_true, Nat.add_zero, Nat.reduceAdd]) (fun S1 hL1 hm1 => by simp (maxDischargeDepth := 40) only [f_X7_whistle, f_X7_whistle_16, f_X7_whistle_42, hL1, gc_0, gc_1, gc_2, gc_3, gc_4, gc_5, Ly_put, kcf, kca, y_hasW _ hL1 hm1.2.1 w7, y_hasS _ hL1 hm1.2.1 hf, y_cell, y_iscall, i_in, c1, c2, y_bad hL1, mCp_e, mC_e, mCv_e, mZ_0, mZ_1, mZ_ifb, if_true, if_false, n10, eq_self, reduceCtorEq, Bool.false_eq_true, Nat.add_zero, Nat.reduceAdd])
    | true =>
      obtain ⟨a, ha, rfl⟩ := dN_some c1 (by decide)
      obtain ⟨c, hc, rfl⟩ := dN_some c2 (by decide)
      have q1 : (nI k.h.w < 3) = (k.h.w < 3) := lt_i (b := 3) (by omega) (by decide)
      have q2 : (nI k.h.w = 3) = (k.h.w = 3) := eq_i (b := 3) (by omega) (by decide)
      by_cases c3 : k.h.w < 3
      · have c4 : ¬ k.h.w = 3 := by omega
        have hL1 : Ly (mPut S 13 1 0) := Ly_put hL (by decide)
        have r1 : RH (mPut S 13 1 0) 2 k.h := RH_sa (fun q a b => mPut_r _ _ _ _ _ (by omega)) hr
        obtain ⟨S1, x1, x2, x3, x4⟩ := x_addW (a := a) (c := c) ho hL1 r1 c3
        refine Agr_k I (k' := setP (setH k (addW k.h a c)) rw0) (r := nI k.h.w) ⟨VH_aw hv c3 ha hc, I.2.1.2.1, I.2.1.2.2.1, I.2.1.2.2.2.1, I.2.1.2.2.2.2.1, I.2.1.2.2.2.2.2.1, VP_0 _ _⟩ ⟨S1, by simp (maxDischargeDepth := 40) only [f_X6_whistle, hL, gc_0, gc_1, gc_2, gc_3, gc_4, gc_5, Ly_put, kcf, kca, x_hasW _ ho hL hr w7, x_hasS _ ho hL hr hf, x_cell, x_kind, x_iscall, x_isimage, i_in, c1, c2, hr.1, q1, c3, x1, mCp_e, mC_e, mCv_e, mZ_0, mZ_1, mZ_ifb, if_true, if_false, n10, eq_self, reduceCtorEq, Bool.false_eq_true, Nat.add_zero, Nat.reduceAdd], x2, CK_h0 x4 (CK_p0 I.2.2.1) x3, TC_tr (TC_put (by omega)) (TC_fr x4 (by omega))⟩ (fun S2 hL2 hm1 => ?_)
        obtain ⟨S3, y1, y2, y3, y4, y5⟩ := y_addW (a := a) (c := c) hL2 hm1.2.1 c3
        exact ⟨S3, by simp (maxDischargeDepth := 40) only [f_X7_whistle, f_X7_whistle_42, hL2, gc_0, gc_1, gc_2, gc_3, gc_4, gc_5, Ly_put, kcf, kca, y_cell, i_in, c1, c2, hm1.2.1.1, q2, c4, y1, mCp_e, mC_e, mCv_e, mZ_0, mZ_1, mZ_ifb, if_true, if_false, n10, eq_self, reduceCtorEq, Bool.false_eq_true, Nat.add_zero, Nat.reduceAdd], y2, MK_9 y4 hm1 y3 y5, F9_TM y4⟩
      · have c4 : (k.h.w = 3) = True := eq_true (by omega)
        exact Agr_ref (v := -4) 2 (by decide) I (by simp (maxDischargeDepth := 40) only [f_X6_whistle, hr.1, hL, gc_0, gc_1, gc_2, gc_3, gc_4, gc_5, Ly_put, kcf, kca, x_hasW _ ho hL hr w7, x_hasS _ ho hL hr hf, x_cell, x_kind, x_iscall, x_isimage, i_in, c1, c2, q1, q2, c3, x_full hL, mCp_e, mC_e, mCv_e, mZ_0, mZ_1, mZ_ifb, if_true, if_false, n10, eq_self, reduceCtorEq, Bool.false_eq_true, Nat.add_zero, Nat.reduceAdd]) (fun S1 hL1 hm1 => by simp (maxDischargeDepth := 40) only [f_X7_whistle, f_X7_whistle_42, hm1.2.1.1, c4, hL1, gc_0, gc_1, gc_2, gc_3, gc_4, gc_5, Ly_put, kcf, kca, y_hasW _ hL1 hm1.2.1 w7, y_hasS _ hL1 hm1.2.1 hf, y_cell, y_iscall, i_in, c1, c2, q1, q2, c3, y_full hL1, mCp_e, mC_e, mCv_e, mZ_0, mZ_1, mZ_ifb, if_true, if_false, n10, eq_self, reduceCtorEq, Bool.false_eq_true, Nat.add_zero, Nat.reduceAdd])
theorem o_sheep {S : mS} (H : Inv S) (v1 v2 : Int32) : Agr (f_X6_sheep (nI 0) v1 v2) (f_X7_sheep (nI 83) v1 v2) S := by
  obtain ⟨k, I⟩ := Inv_k H
  have hL := I.1
  have hv : VH k.h := I.2.1.1
  have hr : RH S 2 k.h := I.2.2.1.2.1
  have hm : MK S k := I.2.2.2.1
  have hq : RM S k.h := hm.2.1
  have ho : HO 2 := Or.inl rfl
  have hw := hv.1
  have hf := hv.2.1
  have w7 : k.h.w ≤ 7 := by omega
  cases c1 : dN 6 v1 with
  | false =>
    exact Agr_ref (v := -2) 0 (by decide) I (by simp (maxDischargeDepth := 40) only [f_X6_sheep, f_X6_sheep_14, hL, gc_0, gc_1, gc_2, gc_3, gc_4, gc_5, Ly_put, kcf, kca, x_hasW _ ho hL hr w7, x_hasS _ ho hL hr hf, x_cell, x_kind, x_iscall, x_isimage, i_in, c1, x_bad hL, mCp_e, mC_e, mCv_e, mZ_0, mZ_1, mZ_ifb, if_true, if_false, n10, eq_self, reduceCtorEq, Bool.false_eq_true, Nat.add_zero, Nat.reduceAdd]) (fun S1 hL1 hm1 => by simp (maxDischargeDepth := 40) only [f_X7_sheep, f_X7_sheep_16, f_X7_sheep_43, hL1, gc_0, gc_1, gc_2, gc_3, gc_4, gc_5, Ly_put, kcf, kca, y_hasW _ hL1 hm1.2.1 w7, y_hasS _ hL1 hm1.2.1 hf, y_cell, y_iscall, i_in, c1, y_bad hL1, mCp_e, mC_e, mCv_e, mZ_0, mZ_1, mZ_ifb, if_true, if_false, n10, eq_self, reduceCtorEq, Bool.false_eq_true, Nat.add_zero, Nat.reduceAdd])
  | true =>
    cases c2 : dN 25 v2 with
    | false =>
      exact Agr_ref (v := -2) 0 (by decide) I (by simp (maxDischargeDepth := 40) only [f_X6_sheep, f_X6_sheep_14, hL, gc_0, gc_1, gc_2, gc_3, gc_4, gc_5, Ly_put, kcf, kca, x_hasW _ ho hL hr w7, x_hasS _ ho hL hr hf, x_cell, x_kind, x_iscall, x_isimage, i_in, c1, c2, x_bad hL, mCp_e, mC_e, mCv_e, mZ_0, mZ_1, mZ_ifb, if_true, if_false, n10, eq_self, reduceCtorEq, Bool.false_eq_true, Nat.add_zero, Nat.reduceAdd]) (fun S1 hL1 hm1 => by simp (maxDischargeDepth := 40) only [f_X7_sheep, f_X7_sheep_16, f_X7_sheep_43, hL1, gc_0, gc_1, gc_2, gc_3, gc_4, gc_5, Ly_put, kcf, kca, y_hasW _ hL1 hm1.2.1 w7, y_hasS _ hL1 hm1.2.1 hf, y_cell, y_iscall, i_in, c1, c2, y_bad hL1, mCp_e, mC_e, mCv_e, mZ_0, mZ_1, mZ_ifb, if_true, if_false, n10, eq_self, reduceCtorEq, Bool.false_eq_true, Nat.add_zero, Nat.reduceAdd])
    | true =>
      obtain ⟨a, ha, rfl⟩ := dN_some c1 (by decide)
      obtain ⟨c, hc, rfl⟩ := dN_some c2 (by decide)
      have q1 : (nI k.h.f < 7) = (k.h.f < 7) := lt_i (b := 7) (by omega) (by decide)
      have q2 : (nI k.h.f = 7) = (k.h.f = 7) := eq_i (b := 7) (by omega) (by decide)
      by_cases c3 : k.h.f < 7
      · have c4 : ¬ k.h.f = 7 := by omega
        have hL1 : Ly (mPut S 13 1 0) := Ly_put hL (by decide)
        have r1 : RH (mPut S 13 1 0) 2 k.h := RH_sa (fun q a b => mPut_r _ _ _ _ _ (by omega)) hr
        obtain ⟨S1, x1, x2, x3, x4⟩ := x_addS (a := a) (c := c) ho hL1 r1 c3
        have vs : ∀ r, r < k.seen.1 → k.seen.2 r 0 < k.h.f + 1 ∧ k.seen.2 r 1 < 25 := fun r hr => ⟨Nat.lt_succ_of_lt (I.2.1.2.2.2.1.2 r hr).1, (I.2.1.2.2.2.1.2 r hr).2⟩
        refine Agr_k I (k' := setP (setH k (addS k.h a c)) rw0) (r := nI k.h.f) ⟨VH_as hv c3 ha hc, I.2.1.2.1, I.2.1.2.2.1, ⟨I.2.1.2.2.2.1.1, vs⟩, I.2.1.2.2.2.2.1, I.2.1.2.2.2.2.2.1, VP_0 _ _⟩ ⟨S1, by simp (maxDischargeDepth := 40) only [f_X6_sheep, hL, gc_0, gc_1, gc_2, gc_3, gc_4, gc_5, Ly_put, kcf, kca, x_hasW _ ho hL hr w7, x_hasS _ ho hL hr hf, x_cell, x_kind, x_iscall, x_isimage, i_in, c1, c2, hr.2.1, q1, c3, x1, mCp_e, mC_e, mCv_e, mZ_0, mZ_1, mZ_ifb, if_true, if_false, n10, eq_self, reduceCtorEq, Bool.false_eq_true, Nat.add_zero, Nat.reduceAdd], x2, CK_h0 x4 (CK_p0 I.2.2.1) x3, TC_tr (TC_put (by omega)) (TC_fr x4 (by omega))⟩ (fun S2 hL2 hm1 => ?_)
        obtain ⟨S3, y1, y2, y3, y4, y5⟩ := y_addS (a := a) (c := c) hL2 hm1.2.1 c3
        exact ⟨S3, by simp (maxDischargeDepth := 40) only [f_X7_sheep, f_X7_sheep_43, hL2, gc_0, gc_1, gc_2, gc_3, gc_4, gc_5, Ly_put, kcf, kca, y_cell, i_in, c1, c2, hm1.2.1.2.1, q2, c4, y1, mCp_e, mC_e, mCv_e, mZ_0, mZ_1, mZ_ifb, if_true, if_false, n10, eq_self, reduceCtorEq, Bool.false_eq_true, Nat.add_zero, Nat.reduceAdd], y2, MK_9 y4 hm1 y3 y5, F9_TM y4⟩
      · have c4 : (k.h.f = 7) = True := eq_true (by omega)
        exact Agr_ref (v := -4) 2 (by decide) I (by simp (maxDischargeDepth := 40) only [f_X6_sheep, hr.2.1, hL, gc_0, gc_1, gc_2, gc_3, gc_4, gc_5, Ly_put, kcf, kca, x_hasW _ ho hL hr w7, x_hasS _ ho hL hr hf, x_cell, x_kind, x_iscall, x_isimage, i_in, c1, c2, q1, q2, c3, x_full hL, mCp_e, mC_e, mCv_e, mZ_0, mZ_1, mZ_ifb, if_true, if_false, n10, eq_self, reduceCtorEq, Bool.false_eq_true, Nat.add_zero, Nat.reduceAdd]) (fun S1 hL1 hm1 => by simp (maxDischargeDepth := 40) only [f_X7_sheep, f_X7_sheep_43, hm1.2.1.2.1, c4, hL1, gc_0, gc_1, gc_2, gc_3, gc_4, gc_5, Ly_put, kcf, kca, y_hasW _ hL1 hm1.2.1 w7, y_hasS _ hL1 hm1.2.1 hf, y_cell, y_iscall, i_in, c1, c2, q1, q2, c3, y_full hL1, mCp_e, mC_e, mCv_e, mZ_0, mZ_1, mZ_ifb, if_true, if_false, n10, eq_self, reduceCtorEq, Bool.false_eq_true, Nat.add_zero, Nat.reduceAdd])
