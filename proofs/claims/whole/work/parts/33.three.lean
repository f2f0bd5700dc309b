/-! the reference tries and takes back -/
def FA (S S1 : mS) : Prop := S1.1 = S.1 ∧ (∀ q, q ≠ 83 → q ≠ 86 → q ≠ 88 → q ≠ 95 → S1.2.1 q = S.2.1 q) ∧ (∀ j, j ≠ 4 → S1.2.1 83 j = S.2.1 83 j) ∧ S1.2.2 = S.2.2
theorem FA_tr {S S1 S2 : mS} (a : FA S S1) (b : FA S1 S2) : FA S S2 := ⟨b.1.trans a.1, fun k x y z w => (b.2.1 k x y z w).trans (a.2.1 k x y z w), fun j x => (b.2.2.1 j x).trans (a.2.2.1 j x), b.2.2.2.trans a.2.2.2⟩
theorem FA_fm {S S1 : mS} (f : FM S S1) : FA S S1 := ⟨f.1, fun q a b c _ => f.2.1 q a b c, f.2.2.1, f.2.2.2⟩
theorem FA_fr {S S1 : mS} (f : Fr 95 96 S S1) : FA S S1 := ⟨f.1, fun q a b c d => f.2.1 q (by omega), fun j _ => by rw [f.2.1 83 (by omega)], f.2.2⟩
theorem FA_rf {S : mS} : FA S S := ⟨rfl, fun _ _ _ _ _ => rfl, fun _ _ => rfl, rfl⟩
theorem FA_TM {S S1 : mS} (f : FA S S1) : TM S S1 := ⟨f.1, fun k hk => f.2.1 k (by omega) (by omega) (by omega) (by omega), f.2.2.1 16 (by decide), fun j _ => by rw [f.2.2.2]⟩
theorem MK_fa {S S1 : mS} {k : KS} (f : FA S S1) (c : MK S k) (hr : RM S1 k.h) : MK S1 k := by
  obtain ⟨c1, c2, c3, c4, c5, c6⟩ := c
  exact ⟨(f.2.2.1 3 (by decide)).trans c1, hr, RR_f (f.2.2.1 _ (by decide)) (f.2.1 _ (by decide) (by decide) (by decide) (by decide)) c3, RR_f (f.2.2.1 _ (by decide)) (f.2.1 _ (by decide) (by decide) (by decide) (by decide)) c4, RR_f (f.2.2.1 _ (by decide)) (f.2.1 _ (by decide) (by decide) (by decide) (by decide)) c5, RP_f (f.2.2.1 _ (by decide)) (f.2.1 _ (by decide) (by decide) (by decide) (by decide)) c6⟩
/-- laid aside at a place, tried, taken back -/
theorem y_back {S S2 : mS} {h : HS} {a : Nat} (hL2 : Ly S2) (hr : RM S h) (hv : VH h) (ha : a + 11 ≤ 22) (f : FA S S2) (l4 : S2.2.1 95 a = S.2.1 83 4) (l5 : ∀ i, i < 3 → S2.2.1 95 (a + 1 + i) = S.2.1 86 i) (l6 : ∀ i, i < 7 → S2.2.1 95 (a + 4 + i) = S.2.1 88 i) : ∃ S3, f_X7_takes (nI 83) (nI 95) (nI a) S2 = some S3 ∧ Ly S3 ∧ RM S3 h ∧ FA S S3 := by
  obtain ⟨S3, e, t1, t2, t3, t4, t5⟩ := y_takes (a := 95) (at_ := a) hL2 rfl (by decide) (show a + 11 ≤ 22 from ha)
  have f3 : FA S S3 := FA_tr f (FA_fm t2)
  have hw := hv.1
  have hf := hv.2.1
  obtain ⟨a1, a2, a3, a4, a5⟩ := hr
  refine ⟨S3, e, t1, ⟨(f3.2.2.1 1 (by decide)).trans a1, (f3.2.2.1 2 (by decide)).trans a2, by rw [t3, l4]; exact a3, fun i hi => ⟨?_, ?_⟩, fun i hi => ⟨?_, ?_⟩⟩, f3⟩
  · rw [f3.2.1 85 (by decide) (by decide) (by decide) (by decide)]
    exact (a4 i hi).1
  · rw [t4 i (by omega), l5 i (by omega)]
    exact (a4 i hi).2
  · rw [f3.2.1 87 (by decide) (by decide) (by decide) (by decide)]
    exact (a5 i hi).1
  · rw [t5 i (by omega), l6 i (by omega)]
    exact (a5 i hi).2
/-! three calls -/
def h3 (k : KS) (i c : Nat) : HS := hC (hC (hC k.h i (c / 25)) i (c / 5 % 5)) i (c % 5)
def n3 (k : KS) (i c : Nat) : Nat := cnt (inC (h3 k i c) k.fold) k.h.f
theorem tri : ∀ c, c < 125 → f_X6_firstOf (nI c) = some (nI (c / 25)) ∧ f_X6_secondOf (nI c) = some (nI (c / 5 % 5)) ∧ f_X6_thirdOf (nI c) = some (nI (c % 5)) ∧ mRem (nI c) 5 = nI (c % 5) ∧ mRem (nI c) 25 = nI (c % 25) ∧ nI c / 25 = nI (c / 25) ∧ mRem (nI c / 5) 5 = nI (c / 5 % 5) := by decide +kernel
theorem x_f3 {S T : mS} {k : KS} {i c : Nat} (hL : Ly T) (v : VK k) (ck : CK S 1 k) (f : Fr 65 80 S T) (hi : i < k.h.w) (hc : c < 125) (g1 : c % 25 ≠ 0 → RH T 65 (hC k.h i (c / 25))) (g2 : c % 5 ≠ 0 → RH T 70 (hC (hC k.h i (c / 25)) i (c / 5 % 5))) : ∃ S1, f_X6_foldedByThree (nI 0) (nI i) (nI c) T = some (nI (n3 k i c), S1) ∧ Ly S1 ∧ Fr 65 80 S S1 ∧ RH S1 65 (hC k.h i (c / 25)) ∧ RH S1 70 (hC (hC k.h i (c / 25)) i (c / 5 % 5)) := by
  have ht := v.2.1
  have t := tri c hc
  have d1 : c / 25 < 5 := by omega
  have d2 : c / 5 % 5 < 5 := by omega
  have d3 : c % 5 < 5 := by omega
  have v1 : VH (hC k.h i (c / 25)) := VH_C v.1 (by omega) hi d1
  have v2 : VH (hC (hC k.h i (c / 25)) i (c / 5 % 5)) := VH_C v1 (by show k.h.t + 1 + 1 ≤ 20000; omega) hi d2
  have v3 : VH (h3 k i c) := VH_C v2 (by show k.h.t + 1 + 1 + 1 ≤ 20000; omega) hi d3
  have q25 : (nI (c % 25) = 0) = (c % 25 = 0) := eq_i (b := 0) (by omega) (by decide)
  have q5' : (nI (c % 5) = 0) = (c % 5 = 0) := eq_i (b := 0) (by omega) (by decide)
  -- the last of the three
  have last : ∀ T2, Ly T2 → Fr 65 80 S T2 → RH T2 65 (hC k.h i (c / 25)) → RH T2 70 (hC (hC k.h i (c / 25)) i (c / 5 % 5)) → ∃ S1, f_X6_foldedByThree_64 (nI 0) (nI i) (nI c) T2 = some (nI (n3 k i c), S1) ∧ Ly S1 ∧ Fr 65 80 S S1 ∧ RH S1 65 (hC k.h i (c / 25)) ∧ RH S1 70 (hC (hC k.h i (c / 25)) i (c / 5 % 5)) := fun T2 l2 f2 r65 r70 => by
    obtain ⟨A, a1, a2, a3, a4⟩ := x_copy h75 h70 (by decide) l2 r70 v2.1 v2.2.1
    obtain ⟨B, b1, b2, b3, b4⟩ := x_call h75 a2 a3 v2 hi d3
    have hF : B.2.1 1 5 = nI k.fold := by rw [b4.2.1 1 (by omega), a4.2.1 1 (by omega), f2.2.1 1 (by omega)]; exact ck.1
    have mi := x_mIn h75 b2 b3 v3 v.2.2.1
    refine ⟨B, ?_, b2, Fr_tr f2 (Fr_tr (Fr_wd a4 (by decide) (by decide)) (Fr_wd b4 (by decide) (by decide))), RH_sa (b4.sa (by omega)) (RH_sa (a4.sa (by omega)) r65), RH_sa (b4.sa (by omega)) (RH_sa (a4.sa (by omega)) r70)⟩
    simp (maxDischargeDepth := 40) only [f_X6_foldedByThree_64, l2, gc_0, gc_1, gc_2, gc_3, gc_4, gc_5, Ly_put, kcf, kca, a1, a2, t.2.2.1, b1, b2, hF, mi, mCp_e, mC_e, mCv_e, mZ_0, mZ_1, mZ_ifb, if_true, if_false, n10, eq_self, reduceCtorEq, Bool.false_eq_true, Nat.add_zero, Nat.reduceAdd]
    rfl
  have mid : ∀ T2, Ly T2 → Fr 65 80 S T2 → RH T2 65 (hC k.h i (c / 25)) → (c % 5 ≠ 0 → RH T2 70 (hC (hC k.h i (c / 25)) i (c / 5 % 5))) → ∃ S1, f_X6_foldedByThree_34 (nI 0) (nI i) (nI c) T2 = some (nI (n3 k i c), S1) ∧ Ly S1 ∧ Fr 65 80 S S1 ∧ RH S1 65 (hC k.h i (c / 25)) ∧ RH S1 70 (hC (hC k.h i (c / 25)) i (c / 5 % 5)) := fun T2 l2 f2 r65 r70 => by
    by_cases z : c % 5 = 0
    · obtain ⟨A, a1, a2, a3, a4⟩ := x_copy h70 h65 (by decide) l2 r65 v1.1 v1.2.1
      obtain ⟨B, b1, b2, b3, b4⟩ := x_call h70 a2 a3 v1 hi d2
      obtain ⟨C, e1, e2⟩ := last B b2 (Fr_tr f2 (Fr_tr (Fr_wd a4 (by decide) (by decide)) (Fr_wd b4 (by decide) (by decide)))) (RH_sa (b4.sa (by omega)) (RH_sa (a4.sa (by omega)) r65)) b3
      refine ⟨C, ?_, e2⟩
      simp (maxDischargeDepth := 40) only [f_X6_foldedByThree_34, t.2.2.2.1, q5', eq_true z, l2, gc_0, gc_1, gc_2, gc_3, gc_4, gc_5, Ly_put, kcf, kca, a1, a2, t.2.1, b1, e1, mCp_e, mC_e, mCv_e, mZ_0, mZ_1, mZ_ifb, if_true, if_false, n10, eq_self, reduceCtorEq, Bool.false_eq_true, Nat.add_zero, Nat.reduceAdd]
    · obtain ⟨C, e1, e2⟩ := last T2 l2 f2 r65 (r70 z)
      refine ⟨C, ?_, e2⟩
      simp (maxDischargeDepth := 40) only [f_X6_foldedByThree_34, t.2.2.2.1, q5', z, e1, mCp_e, mC_e, mCv_e, mZ_0, mZ_1, mZ_ifb, if_true, if_false, n10, eq_self, reduceCtorEq, Bool.false_eq_true, Nat.add_zero, Nat.reduceAdd]
  by_cases z : c % 25 = 0
  · have hr : RH T 2 k.h := RH_sa (f.sa (by omega)) ck.2.1
    obtain ⟨A, a1, a2, a3, a4⟩ := x_copy h65 h2_ (by decide) hL hr v.1.1 v.1.2.1
    obtain ⟨B, b1, b2, b3, b4⟩ := x_call h65 a2 a3 v.1 hi d1
    obtain ⟨C, e1, e2⟩ := mid B b2 (Fr_tr f (Fr_tr (Fr_wd a4 (by decide) (by decide)) (Fr_wd b4 (by decide) (by decide)))) b3 (fun n5 => by omega)
    refine ⟨C, ?_, e2⟩
    simp (maxDischargeDepth := 40) only [f_X6_foldedByThree, t.2.2.2.2.1, q25, eq_true z, hL, gc_0, gc_1, gc_2, gc_3, gc_4, gc_5, Ly_put, kcf, kca, a1, a2, t.1, b1, e1, mCp_e, mC_e, mCv_e, mZ_0, mZ_1, mZ_ifb, if_true, if_false, n10, eq_self, reduceCtorEq, Bool.false_eq_true, Nat.add_zero, Nat.reduceAdd]
  · obtain ⟨C, e1, e2⟩ := mid T hL f (g1 z) g2
    refine ⟨C, ?_, e2⟩
    simp (maxDischargeDepth := 40) only [f_X6_foldedByThree, t.2.2.2.2.1, q25, z, e1, mCp_e, mC_e, mCv_e, mZ_0, mZ_1, mZ_ifb, if_true, if_false, n10, eq_self, reduceCtorEq, Bool.false_eq_true, Nat.add_zero, Nat.reduceAdd]
/-- the first that is the most -/
def fm (g : Nat → Nat) : Nat → Nat
  | 0 => 0
  | c + 1 => if g (fm g c) < g c then c else fm g c
theorem fm_s (g : Nat → Nat) (c : Nat) : fm g (c + 1) = if g (fm g c) < g c then c else fm g c := rfl
theorem fm_lt {g : Nat → Nat} {j : Nat} (h : 0 < j) : fm g j < j := by
  induction j with
  | zero => omega
  | succ j ih =>
    rw [fm_s]
    split
    · omega
    · by_cases e : j = 0
      · subst e
        exact Nat.zero_lt_one
      · have := ih (by omega)
        omega
def fM (g : Nat → Nat) (j : Nat) : Int32 := if j = 0 then -1 else nI (g (fm g j))
theorem fM_le {g : Nat → Nat} {j : Nat} (h : ∀ i, g i < 1000) : (nI (g j) ≤ fM g j) = (0 < j ∧ g j ≤ g (fm g j)) := by
  unfold fM
  have h1 := h j
  by_cases e : j = 0
  · subst e
    rw [if_pos rfl]
    apply propext
    constructor
    · intro z
      exact absurd z (by
        rw [Int32.not_le, Int32.lt_iff_toInt_lt, nI_toInt (by omega)]
        show (-1 : Int) < _
        omega)
    · exact fun z => absurd z.1 (Nat.lt_irrefl 0)
  · have h2 := h (fm g j)
    rw [if_neg e, le_i (by omega) (by omega)]
    exact propext ⟨fun z => ⟨by omega, z⟩, fun z => z.2⟩
theorem fM_s {g : Nat → Nat} {j : Nat} : (fM g (j + 1) = if 0 < j ∧ g j ≤ g (fm g j) then fM g j else nI (g j)) ∧ fm g (j + 1) = (if 0 < j ∧ g j ≤ g (fm g j) then fm g j else j) := by
  have b3 : fM g (j + 1) = nI (g (fm g (j + 1))) := if_neg (by omega)
  rw [b3, fm_s]
  by_cases e : j = 0
  · subst e
    rw [if_neg (show ¬ g (fm g 0) < g 0 from Nat.lt_irrefl _), if_neg (by omega), if_neg (by omega)]
    exact ⟨rfl, rfl⟩
  · have b1 : fM g j = nI (g (fm g j)) := if_neg e
    rw [b1]
    by_cases c : g j ≤ g (fm g j)
    · rw [if_neg (by omega), if_pos ⟨by omega, c⟩, if_pos ⟨by omega, c⟩]
      exact ⟨rfl, rfl⟩
    · rw [if_pos (by omega), if_neg (fun z => c z.2), if_neg (fun z => c z.2)]
      exact ⟨rfl, rfl⟩
def cd3 (c : Nat) : Nat := 100 * (c / 25) + 10 * (c / 5 % 5) + c % 5
theorem n3_lt {k : KS} {i c : Nat} (v : VK k) : n3 k i c < 1000 := by
  have h1 := cnt_le (inC (h3 k i c) k.fold) k.h.f
  have h2 := v.1.2.1
  unfold n3
  omega
theorem x_gath {S : mS} {k : KS} {i w : Nat} (hL : Ly S) (v : VK k) (ck : CK S 1 k) (hi : i < k.h.w) (hw : w < 2) : ∃ S1, f_X6_gather_38 f_X6_gather_73 1000 (nI 0) (nI i) (nI w) (-1) 0 0 S = some (if w = 0 then nI (n3 k i (fm (n3 k i) 125)) else nI (cd3 (fm (n3 k i) 125)), S1) ∧ Ly S1 ∧ Fr 65 80 S S1 := by
  obtain ⟨m, S2, ⟨p2, p3, p4, p5⟩, e⟩ := lupI (fun n c (s : mS) => f_X6_gather_38 f_X6_gather_73 n (nI 0) (nI i) (nI w) (fM (n3 k i) c) (nI (fm (n3 k i) c)) (nI c) s) (fun c (s : mS) => Ly s ∧ Fr 65 80 S s ∧ (c % 25 ≠ 0 → RH s 65 (hC k.h i (c / 25))) ∧ (c % 5 ≠ 0 → RH s 70 (hC (hC k.h i (c / 25)) i (c / 5 % 5)))) 125 (by
    rintro n c T hc ⟨q2, q3, q4, q5⟩
    have le : ((125 : Int32) ≤ nI c) = False := eq_false (nI_ge hc (by decide))
    obtain ⟨T1, a1, a2, a3, a4, a5⟩ := x_f3 q2 v ck q3 hi hc q4 q5
    refine ⟨T1, ⟨a2, a3, fun z => ?_, fun z => ?_⟩, ?_⟩
    · rw [show (c + 1) / 25 = c / 25 by omega]
      exact a4
    · rw [show (c + 1) / 25 = c / 25 by omega, show (c + 1) / 5 = c / 5 by omega]
      exact a5
    · show f_X6_gather_38 f_X6_gather_73 (n + 1) _ _ _ _ _ _ T = _
      rw [f_X6_gather_38_s, (fM_s (g := n3 k i) (j := c)).1, (fM_s (g := n3 k i) (j := c)).2]
      simp (maxDischargeDepth := 40) only [le, q2, gc_0, gc_1, gc_2, gc_3, gc_4, gc_5, Ly_put, kcf, kca, a1, fM_le (g := n3 k i) (j := c) (fun j => n3_lt v), f_X6_gather_67, nI_1, mCp_e, mC_e, mCv_e, mZ_0, mZ_1, mZ_ifb, if_true, if_false, n10, eq_self, reduceCtorEq, Bool.false_eq_true, Nat.add_zero, Nat.reduceAdd]
      by_cases z : 0 < c ∧ n3 k i c ≤ n3 k i (fm (n3 k i) c)
      · simp (maxDischargeDepth := 40) only [if_pos z]
      · simp (maxDischargeDepth := 40) only [if_neg z]) 1000 S ⟨hL, Fr_rf, fun z => absurd rfl z, fun z => absurd rfl z⟩ (by decide)
  refine ⟨S2, ?_, p2, p3⟩
  refine Eq.trans e ?_
  have le5 : ((125 : Int32) ≤ nI 125) = True := by decide
  have fb := fm_lt (g := n3 k i) (show 0 < 125 by decide)
  have t := tri _ fb
  have b3 : fM (n3 k i) 125 = nI (n3 k i (fm (n3 k i) 125)) := rfl
  have m1 : ∀ x, 100 * nI x = nI (100 * x) := fun x => nI_mul 100 x
  have m2 : ∀ x, 10 * nI x = nI (10 * x) := fun x => nI_mul 10 x
  rw [f_X6_gather_38_s, b3]
  rcases (show w = 0 ∨ w = 1 by omega) with rfl | rfl
  · simp (maxDischargeDepth := 40) only [le5, f_X6_gather_73, f_X6_gather_104, litz, mCp_e, mC_e, mCv_e, mZ_0, mZ_1, mZ_ifb, if_true, if_false, n10, eq_self, reduceCtorEq, Bool.false_eq_true, Nat.add_zero, Nat.reduceAdd]
  · simp (maxDischargeDepth := 40) only [le5, f_X6_gather_73, f_X6_gather_104, litz, t.1, t.2.1, t.2.2.1, m1, m2, nI_add, Nat.one_ne_zero, mCp_e, mC_e, mCv_e, mZ_0, mZ_1, mZ_ifb, if_true, if_false, n10, eq_self, reduceCtorEq, Bool.false_eq_true, Nat.add_zero, Nat.reduceAdd]
    rfl
