/-! read: the ITEMS, and the class's side of one -/
def mayB (k w f : Nat) (fst : Bool) : Bool := if k = 4 then fst else if k = 5 then !fst && decide (w < 3) else if k = 6 then !fst && decide (f < 7) else if k = 7 then !fst else if k = 8 then !fst else false
def fsN (k w v : Nat) : Bool := if k = 4 then decide (v < 25) else if k = 7 then decide (v < w) else if k = 8 then decide (1 ≤ v ∧ v ≤ 99) else decide (v < 6)
def snN (k v : Nat) : Bool := if k = 7 then decide (v < 5) else decide (v < 25)
/-- goes on at, or the place of the FAULT -/
def pI3 (n : Nat) (b : Nat → Nat) (q : Nat) : Bool × Nat := if tK n b q = 2 then (true, tE n b q) else (false, tS n b q)
def pI2 (n : Nat) (b : Nat → Nat) (k q : Nat) : Bool × Nat := if tK n b q = 1 ∧ snN k (tV n b q) = true then pI3 n b (tE n b q) else (false, tS n b q)
def pI1 (n : Nat) (b : Nat → Nat) (k w q : Nat) : Bool × Nat := if tK n b q = 1 ∧ fsN k w (tV n b q) = true then (if k = 4 ∨ k = 8 then pI3 n b (tE n b q) else pI2 n b k (tE n b q)) else (false, tS n b q)
def pI (n : Nat) (b : Nat → Nat) (fst : Bool) (w f p : Nat) : Bool × Nat := if mayB (tK n b p) w f fst = true then pI1 n b (tK n b p) w (tE n b p) else (false, tS n b p)
def pX (k v1 v2 : Nat) (h : HS) (c : Nat) : HS × Nat := if k = 4 then (h, v1) else if k = 5 then (addW h v1 v2, c) else if k = 6 then (addS h v1 v2, c) else if k = 7 then (hC h v1 v2, c) else (setT h (h.t + v1), c)
def kOf (h : HS) (c : Nat) : KS := (h, c, rw0, rw0, rw0, rw0)
def pL (n : Nat) (b : Nat → Nat) : Nat → Nat → HS → Nat → Nat → Option (HS × Nat) × Nat
  | 0, _, _, _, _ => (none, 0)
  | m + 1, j, h, c, p => if j ≠ 0 ∧ tK n b p = 0 then (some (h, c), j) else if (pI n b (decide (j = 0)) h.w h.f p).1 = true then pL n b m (j + 1) (pX (tK n b p) (tV n b (tE n b p)) (tV n b (tE n b (tE n b p))) h c).1 (pX (tK n b p) (tV n b (tE n b p)) (tV n b (tE n b (tE n b p))) h c).2 (pI n b (decide (j = 0)) h.w h.f p).2 else (none, (pI n b (decide (j = 0)) h.w h.f p).2)
theorem tE_g {n : Nat} {b : Nat → Nat} {p : Nat} (hp : p ≤ n) (h : tK n b p ≠ 0) : p < tE n b p := by
  have := tE_gt hp h
  have := tS_le (b := b) hp
  omega
theorem pI3_ok {n : Nat} {b : Nat → Nat} {q : Nat} (hq : q ≤ n) (h : (pI3 n b q).1 = true) : tK n b q = 2 ∧ (pI3 n b q).2 = tE n b q ∧ q < (pI3 n b q).2 ∧ (pI3 n b q).2 ≤ n := by
  unfold pI3 at h ⊢
  by_cases c : tK n b q = 2
  · rw [if_pos c]
    exact ⟨c, rfl, tE_g hq (by omega), (tE_le hq).2⟩
  · rw [if_neg c] at h
    cases h
theorem pI_ok {n : Nat} {b : Nat → Nat} {fst : Bool} {w f p : Nat} (hp : p ≤ n) (h : (pI n b fst w f p).1 = true) : mayB (tK n b p) w f fst = true ∧ fsN (tK n b p) w (tV n b (tE n b p)) = true ∧ tV n b (tE n b p) < 100 ∧ (¬ (tK n b p = 4 ∨ tK n b p = 8) → snN (tK n b p) (tV n b (tE n b (tE n b p))) = true) ∧ p + 3 ≤ (pI n b fst w f p).2 ∧ (pI n b fst w f p).2 ≤ n := by
  unfold pI at h ⊢
  by_cases c : mayB (tK n b p) w f fst = true
  · rw [if_pos c] at h ⊢
    have k0 : tK n b p ≠ 0 := fun z => by rw [z] at c; cases c
    have g0 := tE_g hp k0
    have l0 := (tE_le (b := b) hp).2
    unfold pI1 at h ⊢
    by_cases d : tK n b (tE n b p) = 1 ∧ fsN (tK n b p) w (tV n b (tE n b p)) = true
    · rw [if_pos d] at h ⊢
      have g1 := tE_g l0 (show tK n b (tE n b p) ≠ 0 by omega)
      have l1 := (tE_le (b := b) l0).2
      have v1 := (tV_lt l0 d.1).1
      by_cases e : tK n b p = 4 ∨ tK n b p = 8
      · rw [if_pos e] at h ⊢
        have r := pI3_ok l1 h
        exact ⟨c, d.2, v1, fun z => absurd e z, by omega, r.2.2.2⟩
      · rw [if_neg e] at h ⊢
        unfold pI2 at h ⊢
        by_cases g : tK n b (tE n b (tE n b p)) = 1 ∧ snN (tK n b p) (tV n b (tE n b (tE n b p))) = true
        · rw [if_pos g] at h ⊢
          have g2 := tE_g l1 (show tK n b (tE n b (tE n b p)) ≠ 0 by omega)
          have r := pI3_ok (tE_le (b := b) l1).2 h
          exact ⟨c, d.2, v1, fun _ => g.2, by omega, r.2.2.2⟩
        · rw [if_neg g] at h
          cases h
    · rw [if_neg d] at h
      cases h
  · rw [if_neg c] at h
    cases h
theorem dN_d {v N : Nat} (hv : v < 2147483648) : dN N (nI v) = decide (v < N) := by
  unfold dN mIn
  rw [nI_cl hv]
  simp [nI_pos hv]
theorem h16_ : HO 16 := Or.inr (Or.inl rfl)
theorem c9 {c : Nat} (h : c < 9) : c = 0 ∨ c = 1 ∨ c = 2 ∨ c = 3 ∨ c = 4 ∨ c = 5 ∨ c = 6 ∨ c = 7 ∨ c = 8 := by omega
theorem ntb : (nI 0 = 4) = False ∧ (nI 0 = 5) = False ∧ (nI 0 = 6) = False ∧ (nI 0 = 7) = False ∧ (nI 0 = 8) = False ∧ (nI 4 = 8) = False ∧ (nI 8 = 8) = True ∧ (nI 8 = 4) = False ∧ (nI 5 = 8) = False ∧ (nI 6 = 8) = False ∧ (nI 7 = 8) = False := by decide
theorem x_mayB {S : mS} {k : Nat} {h : HS} {fst : Bool} (hL : Ly S) (hk : k < 9) (h6 : S.2.1 59 6 = nI k) (hr : RH S 16 h) (hw : h.w ≤ 3) (hf : h.f ≤ 7) : f_X4_mayBegin (nI 59) (nI 16) (if fst = true then 1 else 0) S = some (if mayB k h.w h.f fst = true then 1 else 0) := by
  have g1 := hr.1
  have g2 := hr.2.1
  have a3 : ((3 : Int32) ≤ nI h.w) = (3 ≤ h.w) := le_i (a := 3) (by decide) (by omega)
  have a7 : ((7 : Int32) ≤ nI h.f) = (7 ≤ h.f) := le_i (a := 7) (by decide) (by omega)
  rcases c9 hk with rfl | rfl | rfl | rfl | rfl | rfl | rfl | rfl | rfl <;> cases fst
  all_goals simp (maxDischargeDepth := 40) only [f_X4_mayBegin, f_X4_mayBegin_58, f_X4_mayBegin_59, f_X4_mayBegin_77, f_X4_mayBegin_78, f_X4_mayBegin_79, f_X4_mayBegin_88, hL, gc_0, gc_1, gc_2, gc_3, gc_4, gc_5, Ly_put, kcf, kca, h6, ntab, ntb, g1, g2, a3, a7, mayB, Nat.reduceEqDiff, mCp_e, mC_e, mCv_e, mZ_0, mZ_1, mZ_ifb, if_true, if_false, n10, eq_self, reduceCtorEq, Bool.false_eq_true, Nat.add_zero, Nat.reduceAdd]
  · by_cases c : h.w < 3
    · have c1 : (3 ≤ h.w) = False := eq_false (by omega)
      simp (maxDischargeDepth := 40) only [c1, decide_eq_true c, Bool.not_false, Bool.and_self, mCp_e, mC_e, mCv_e, mZ_0, mZ_1, mZ_ifb, if_true, if_false, n10, eq_self, reduceCtorEq, Bool.false_eq_true, Nat.add_zero, Nat.reduceAdd]
    · have c1 : (3 ≤ h.w) = True := eq_true (by omega)
      simp (maxDischargeDepth := 40) only [c1, decide_eq_false c, Bool.not_false, Bool.and_false, mCp_e, mC_e, mCv_e, mZ_0, mZ_1, mZ_ifb, if_true, if_false, n10, eq_self, reduceCtorEq, Bool.false_eq_true, Nat.add_zero, Nat.reduceAdd]
  · simp (maxDischargeDepth := 40) only [Bool.not_true, Bool.false_and, mCp_e, mC_e, mCv_e, mZ_0, mZ_1, mZ_ifb, if_true, if_false, n10, eq_self, reduceCtorEq, Bool.false_eq_true, Nat.add_zero, Nat.reduceAdd]
  · by_cases c : h.f < 7
    · have c1 : (7 ≤ h.f) = False := eq_false (by omega)
      simp (maxDischargeDepth := 40) only [c1, decide_eq_true c, Bool.not_false, Bool.and_self, mCp_e, mC_e, mCv_e, mZ_0, mZ_1, mZ_ifb, if_true, if_false, n10, eq_self, reduceCtorEq, Bool.false_eq_true, Nat.add_zero, Nat.reduceAdd]
    · have c1 : (7 ≤ h.f) = True := eq_true (by omega)
      simp (maxDischargeDepth := 40) only [c1, decide_eq_false c, Bool.not_false, Bool.and_false, mCp_e, mC_e, mCv_e, mZ_0, mZ_1, mZ_ifb, if_true, if_false, n10, eq_self, reduceCtorEq, Bool.false_eq_true, Nat.add_zero, Nat.reduceAdd]
  · simp (maxDischargeDepth := 40) only [Bool.not_true, Bool.false_and, mCp_e, mC_e, mCv_e, mZ_0, mZ_1, mZ_ifb, if_true, if_false, n10, eq_self, reduceCtorEq, Bool.false_eq_true, Nat.add_zero, Nat.reduceAdd]
  all_goals simp (maxDischargeDepth := 40) only [Bool.not_true, Bool.not_false, mCp_e, mC_e, mCv_e, mZ_0, mZ_1, mZ_ifb, if_true, if_false, n10, eq_self, reduceCtorEq, Bool.false_eq_true, Nat.add_zero, Nat.reduceAdd]
theorem x_fsN {S : mS} {k v : Nat} {h : HS} (hL : Ly S) (hk : k = 4 ∨ k = 5 ∨ k = 6 ∨ k = 7 ∨ k = 8) (h6 : S.2.1 59 6 = nI k) (h5 : S.2.1 59 5 = nI v) (hv : v < 100) (hr : RH S 16 h) (hw : h.w ≤ 3) : f_X4_isFirstNumber (nI 59) (nI 16) S = some (if fsN k h.w v = true then 1 else 0) := by
  have a1 : (nI v < 1) = (v < 1) := lt_i (b := 1) (by omega) (by decide)
  have a2 : ((99 : Int32) < nI v) = (99 < v) := lt_i (a := 99) (by decide) (by omega)
  rcases hk with rfl | rfl | rfl | rfl | rfl
  all_goals simp (maxDischargeDepth := 40) only [f_X4_isFirstNumber, f_X4_isFirstNumber_68, hL, gc_0, gc_1, gc_2, gc_3, gc_4, gc_5, Ly_put, kcf, kca, h6, h5, ntab, ntb, x_cell, x_kind, x_hasW _ h16_ hL hr (show h.w ≤ 7 by omega), x_in, dN_d (show v < 2147483648 by omega), a1, a2, fsN, Nat.reduceEqDiff, mCp_e, mC_e, mCv_e, mZ_0, mZ_1, mZ_ifb, if_true, if_false, n10, eq_self, reduceCtorEq, Bool.false_eq_true, Nat.add_zero, Nat.reduceAdd]
  by_cases c : v < 1
  · have c1 : (v < 1) = True := eq_true c
    have c2 : (1 ≤ v) = False := eq_false (by omega)
    simp (maxDischargeDepth := 40) only [c1, c2, not_true, false_and, decide_false, mCp_e, mC_e, mCv_e, mZ_0, mZ_1, mZ_ifb, if_true, if_false, n10, eq_self, reduceCtorEq, Bool.false_eq_true, Nat.add_zero, Nat.reduceAdd]
  · have c1 : (v < 1) = False := eq_false c
    have c2 : (1 ≤ v) = True := eq_true (by omega)
    have c3 : (99 < v) = False := eq_false (by omega)
    have c4 : (v ≤ 99) = True := eq_true (by omega)
    simp (maxDischargeDepth := 40) only [c1, c2, c3, c4, not_false_eq_true, and_self, decide_true, mCp_e, mC_e, mCv_e, mZ_0, mZ_1, mZ_ifb, if_true, if_false, n10, eq_self, reduceCtorEq, Bool.false_eq_true, Nat.add_zero, Nat.reduceAdd]
theorem x_snN {S : mS} {k v : Nat} (hL : Ly S) (hk : k < 9) (h6 : S.2.1 59 6 = nI k) (h5 : S.2.1 59 5 = nI v) (hv : v < 100) : f_X4_isSecondNumber (nI 59) S = some (if snN k v = true then 1 else 0) := by
  have e7 : (nI k = 7) = (k = 7) := eq_i (b := 7) (by omega) (by decide)
  unfold snN
  by_cases c : k = 7
  · have ce : (k = 7) = True := eq_true c
    simp (maxDischargeDepth := 40) only [f_X4_isSecondNumber, f_X4_isSecondNumber_26, hL, gc_0, gc_1, gc_2, gc_3, gc_4, gc_5, Ly_put, kcf, kca, h6, h5, e7, ce, x_iscall, dN_d (show v < 2147483648 by omega), mCp_e, mC_e, mCv_e, mZ_0, mZ_1, mZ_ifb, if_true, if_false, n10, eq_self, reduceCtorEq, Bool.false_eq_true, Nat.add_zero, Nat.reduceAdd]
  · have ce : (k = 7) = False := eq_false c
    simp (maxDischargeDepth := 40) only [f_X4_isSecondNumber, f_X4_isSecondNumber_26, hL, gc_0, gc_1, gc_2, gc_3, gc_4, gc_5, Ly_put, kcf, kca, h6, h5, e7, ce, x_cell, dN_d (show v < 2147483648 by omega), mCp_e, mC_e, mCv_e, mZ_0, mZ_1, mZ_ifb, if_true, if_false, n10, eq_self, reduceCtorEq, Bool.false_eq_true, Nat.add_zero, Nat.reduceAdd]
def Rs (S1 : mS) (r : Bool × Nat) : Prop := (r.1 = true → S1.2.1 59 3 = nI r.2) ∧ (r.1 = false → S1.2.1 59 2 = nI r.2)
theorem x_ti95 {S : mS} {n q : Nat} {b : Nat → Nat} (hL : Ly S) (hn : n ≤ 150) (hb : ∀ j, j < n → b j < 128) (hq : q ≤ n) (tx : xC S n b) (h3 : S.2.1 59 3 = nI q) : ∃ S1, f_X4_takeItem_95 (nI 59) S = some (if (pI3 n b q).1 = true then 1 else 0, S1) ∧ Ff 2 5 S S1 ∧ Rs S1 (pI3 n b q) := by
  obtain ⟨A, a1, a2, a3, a4, a5, -⟩ := x_next hL hn hb hq tx h3
  have a0 := a2.1
  have e2 : (nI (tK n b q) = 2) = (tK n b q = 2) := eq_i (b := 2) (by have := tK_lt (n := n) (b := b) (p := q); omega) (by decide)
  unfold pI3
  by_cases c : tK n b q = 2
  · have ce : (tK n b q = 2) = True := eq_true c
    refine ⟨A, ?_, a2, ?_⟩
    · simp (maxDischargeDepth := 40) only [f_X4_takeItem_95, f_X4_takeItem_112, hL, gc_0, gc_1, gc_2, gc_3, gc_4, gc_5, Ly_put, kcf, kca, a1, a0, a5, e2, ce, mCp_e, mC_e, mCv_e, mZ_0, mZ_1, mZ_ifb, if_true, if_false, n10, eq_self, reduceCtorEq, Bool.false_eq_true, Nat.add_zero, Nat.reduceAdd]
    · rw [if_pos c]
      exact ⟨fun _ => a4, fun z => Bool.noConfusion z⟩
  · have ce : (tK n b q = 2) = False := eq_false c
    refine ⟨A, ?_, a2, ?_⟩
    · simp (maxDischargeDepth := 40) only [f_X4_takeItem_95, f_X4_takeItem_112, hL, gc_0, gc_1, gc_2, gc_3, gc_4, gc_5, Ly_put, kcf, kca, a1, a0, a5, e2, ce, mCp_e, mC_e, mCv_e, mZ_0, mZ_1, mZ_ifb, if_true, if_false, n10, eq_self, reduceCtorEq, Bool.false_eq_true, Nat.add_zero, Nat.reduceAdd]
    · rw [if_neg c]
      exact ⟨fun z => Bool.noConfusion z, fun _ => a3⟩
/-- what the item has told -/
def Rt (S1 : mS) (k v1 v2 : Nat) : Prop := S1.2.1 59 6 = nI k ∧ S1.2.1 59 7 = nI v1 ∧ (¬ (k = 4 ∨ k = 8) → S1.2.1 59 8 = nI v2)
theorem RH_ff {S S1 : mS} {lo hi : Nat} {h : HS} (f : Ff lo hi S S1) (hr : RH S 16 h) : RH S1 16 h := RH_sa (f.2.1.sa (by omega)) hr
theorem x_item {S : mS} {n p : Nat} {b : Nat → Nat} {fst : Bool} {h : HS} (hL : Ly S) (hn : n ≤ 150) (hb : ∀ j, j < n → b j < 128) (hp : p ≤ n) (tx : xC S n b) (h2 : S.2.1 59 2 = nI (tS n b p)) (h3 : S.2.1 59 3 = nI (tE n b p)) (h4 : S.2.1 59 4 = nI (tK n b p)) (hr : RH S 16 h) (hw : h.w ≤ 3) (hf : h.f ≤ 7) : ∃ S1, f_X4_takeItem (nI 59) (nI 16) (if fst = true then 1 else 0) S = some (if (pI n b fst h.w h.f p).1 = true then 1 else 0, S1) ∧ Ff 2 8 S S1 ∧ Rs S1 (pI n b fst h.w h.f p) ∧ ((pI n b fst h.w h.f p).1 = true → Rt S1 (tK n b p) (tV n b (tE n b p)) (tV n b (tE n b (tE n b p)))) := by
  have k9 := tK_lt (n := n) (b := b) (p := p)
  have l0 := (tE_le (b := b) hp).2
  have f6 : Ff 2 8 S (mPut S 59 6 (nI (tK n b p))) := Ff_put hL (by decide) (by decide) (by decide)
  have A6 : (mPut S 59 6 (nI (tK n b p))).2.1 59 6 = nI (tK n b p) := by rw [mPut_g, if_pos ⟨rfl, rfl⟩]
  have A3 : (mPut S 59 6 (nI (tK n b p))).2.1 59 3 = nI (tE n b p) := by rw [mPut_g, if_neg (by decide)]; exact h3
  have A2 : (mPut S 59 6 (nI (tK n b p))).2.1 59 2 = nI (tS n b p) := by rw [mPut_g, if_neg (by decide)]; exact h2
  have tA := xC_f f6 (by decide) tx
  have hrA := RH_ff f6 hr
  generalize hA : mPut S 59 6 (nI (tK n b p)) = A at *
  have A0 := f6.1
  have mb := x_mayB (fst := fst) A0 k9 A6 hrA hw hf
  cases c : mayB (tK n b p) h.w h.f fst with
  | false =>
    rw [c] at mb
    have pe : pI n b fst h.w h.f p = (false, tS n b p) := by unfold pI; rw [c]; rfl
    rw [pe]
    refine ⟨A, ?_, f6, ?_, fun z => Bool.noConfusion z⟩
    · simp (maxDischargeDepth := 40) only [f_X4_takeItem, hL, gc_0, gc_1, gc_2, gc_3, gc_4, gc_5, Ly_put, kcf, kca, h4, hA, A0, mb, mCp_e, mC_e, mCv_e, mZ_0, mZ_1, mZ_ifb, if_true, if_false, n10, eq_self, reduceCtorEq, Bool.false_eq_true, Nat.add_zero, Nat.reduceAdd]
    · exact ⟨fun z => Bool.noConfusion z, fun _ => A2⟩
  | true =>
    rw [c] at mb
    have k4 : tK n b p = 4 ∨ tK n b p = 5 ∨ tK n b p = 6 ∨ tK n b p = 7 ∨ tK n b p = 8 := by
      rcases c9 k9 with e | e | e | e | e | e | e | e | e <;> first | omega | (rw [e] at c; exact Bool.noConfusion (show false = true from c))
    obtain ⟨B, b1, b2, b3, b4, b5, b6⟩ := x_next A0 hn hb l0 tA A3
    have B0 := b2.1
    have tB := xC_f b2 (by decide) tA
    have hrB := RH_ff b2 hrA
    have B6 : B.2.1 59 6 = nI (tK n b p) := (b2.2.2 6 (by decide)).trans A6
    have fB : Ff 2 8 S B := Ff_tr f6 (Ff_wd b2 (by decide) (by decide))
    have e1 : (nI (tK n b (tE n b p)) = 1) = (tK n b (tE n b p) = 1) := eq_i (b := 1) (by have := tK_lt (n := n) (b := b) (p := tE n b p); omega) (by decide)
    have pe0 : pI n b fst h.w h.f p = pI1 n b (tK n b p) h.w (tE n b p) := by unfold pI; rw [c]; rfl
    rw [pe0]
    by_cases d1 : tK n b (tE n b p) = 1
    · have d1e : (tK n b (tE n b p) = 1) = True := eq_true d1
      have vv := (tV_lt l0 d1).1
      have fn := x_fsN B0 k4 B6 (b6 d1) vv hrB hw
      cases d2 : fsN (tK n b p) h.w (tV n b (tE n b p)) with
      | false =>
        rw [d2] at fn
        have pe : pI1 n b (tK n b p) h.w (tE n b p) = (false, tS n b (tE n b p)) := by unfold pI1; rw [if_neg (fun z => by rw [d2] at z; exact Bool.noConfusion z.2)]
        rw [pe]
        refine ⟨B, ?_, fB, ?_, fun z => Bool.noConfusion z⟩
        · simp (maxDischargeDepth := 40) only [f_X4_takeItem, f_X4_takeItem_39, hL, gc_0, gc_1, gc_2, gc_3, gc_4, gc_5, Ly_put, kcf, kca, h4, hA, A0, mb, b1, B0, b5, e1, d1e, fn, mCp_e, mC_e, mCv_e, mZ_0, mZ_1, mZ_ifb, if_true, if_false, n10, eq_self, reduceCtorEq, Bool.false_eq_true, Nat.add_zero, Nat.reduceAdd]
        · exact ⟨fun z => Bool.noConfusion z, fun _ => b3⟩
      | true =>
        rw [d2] at fn
        have f7 : Ff 2 8 B (mPut B 59 7 (nI (tV n b (tE n b p)))) := Ff_put B0 (by decide) (by decide) (by decide)
        have B5 := b6 d1
        have C7 : (mPut B 59 7 (nI (tV n b (tE n b p)))).2.1 59 7 = nI (tV n b (tE n b p)) := by rw [mPut_g, if_pos ⟨rfl, rfl⟩]
        have C6 : (mPut B 59 7 (nI (tV n b (tE n b p)))).2.1 59 6 = nI (tK n b p) := by rw [mPut_g, if_neg (by decide)]; exact B6
        have C3 : (mPut B 59 7 (nI (tV n b (tE n b p)))).2.1 59 3 = nI (tE n b (tE n b p)) := by rw [mPut_g, if_neg (by decide)]; exact b4
        have tC := xC_f f7 (by decide) tB
        generalize hC : mPut B 59 7 (nI (tV n b (tE n b p))) = C at *
        have C0 := f7.1
        have fC : Ff 2 8 S C := Ff_tr fB f7
        have l1 := (tE_le (b := b) l0).2
        have z4 : (nI (tK n b p) = 4) = (tK n b p = 4) := eq_i (b := 4) (by omega) (by decide)
        have z8 : (nI (tK n b p) = 8) = (tK n b p = 8) := eq_i (b := 8) (by omega) (by decide)
        by_cases g : tK n b p = 4 ∨ tK n b p = 8
        · obtain ⟨D, x1, x2, x3⟩ := x_ti95 C0 hn hb l1 tC C3
          have pe : pI1 n b (tK n b p) h.w (tE n b p) = pI3 n b (tE n b (tE n b p)) := by unfold pI1; rw [if_pos ⟨d1, d2⟩, if_pos g]
          rw [pe]
          refine ⟨D, ?_, Ff_tr fC (Ff_wd x2 (by decide) (by decide)), x3, fun _ => ⟨(x2.2.2 6 (by decide)).trans C6, (x2.2.2 7 (by decide)).trans C7, fun y => absurd g y⟩⟩
          rcases g with g | g
          · have ge : (tK n b p = 4) = True := eq_true g
            simp (maxDischargeDepth := 40) only [f_X4_takeItem, hL, gc_0, gc_1, gc_2, gc_3, gc_4, gc_5, Ly_put, kcf, kca, h4, hA, A0, mb, b1, B0, b5, B5, e1, d1e, fn, hC, C0, C6, z4, ge, x1, mCp_e, mC_e, mCv_e, mZ_0, mZ_1, mZ_ifb, if_true, if_false, n10, eq_self, reduceCtorEq, Bool.false_eq_true, Nat.add_zero, Nat.reduceAdd]
          · have ge : (tK n b p = 4) = False := eq_false (by omega)
            have ge8 : (tK n b p = 8) = True := eq_true g
            simp (maxDischargeDepth := 40) only [f_X4_takeItem, hL, gc_0, gc_1, gc_2, gc_3, gc_4, gc_5, Ly_put, kcf, kca, h4, hA, A0, mb, b1, B0, b5, B5, e1, d1e, fn, hC, C0, C6, z4, ge, z8, ge8, x1, mCp_e, mC_e, mCv_e, mZ_0, mZ_1, mZ_ifb, if_true, if_false, n10, eq_self, reduceCtorEq, Bool.false_eq_true, Nat.add_zero, Nat.reduceAdd]
        · have g4 : (tK n b p = 4) = False := eq_false (fun z => g (Or.inl z))
          have g8 : (tK n b p = 8) = False := eq_false (fun z => g (Or.inr z))
          obtain ⟨D, x1, x2, x3, x4, x5, x6⟩ := x_next C0 hn hb l1 tC C3
          have D0 := x2.1
          have tD := xC_f x2 (by decide) tC
          have D6 : D.2.1 59 6 = nI (tK n b p) := (x2.2.2 6 (by decide)).trans C6
          have D7 : D.2.1 59 7 = nI (tV n b (tE n b p)) := (x2.2.2 7 (by decide)).trans C7
          have fD : Ff 2 8 S D := Ff_tr fC (Ff_wd x2 (by decide) (by decide))
          have w1 : (nI (tK n b (tE n b (tE n b p))) = 1) = (tK n b (tE n b (tE n b p)) = 1) := eq_i (b := 1) (by have := tK_lt (n := n) (b := b) (p := tE n b (tE n b p)); omega) (by decide)
          have pe1 : pI1 n b (tK n b p) h.w (tE n b p) = pI2 n b (tK n b p) (tE n b (tE n b p)) := by unfold pI1; rw [if_pos ⟨d1, d2⟩, if_neg g]
          rw [pe1]
          by_cases y1 : tK n b (tE n b (tE n b p)) = 1
          · have y1e : (tK n b (tE n b (tE n b p)) = 1) = True := eq_true y1
            have v2 := (tV_lt l1 y1).1
            have sn := x_snN D0 k9 D6 (x6 y1) v2
            cases y2 : snN (tK n b p) (tV n b (tE n b (tE n b p))) with
            | false =>
              rw [y2] at sn
              have pe : pI2 n b (tK n b p) (tE n b (tE n b p)) = (false, tS n b (tE n b (tE n b p))) := by unfold pI2; rw [if_neg (fun z => by rw [y2] at z; exact Bool.noConfusion z.2)]
              rw [pe]
              refine ⟨D, ?_, fD, ?_, fun z => Bool.noConfusion z⟩
              · simp (maxDischargeDepth := 40) only [f_X4_takeItem, f_X4_takeItem_85, hL, gc_0, gc_1, gc_2, gc_3, gc_4, gc_5, Ly_put, kcf, kca, h4, hA, A0, mb, b1, B0, b5, B5, e1, d1e, fn, hC, C0, C6, z4, g4, z8, g8, x1, D0, x5, w1, y1e, sn, mCp_e, mC_e, mCv_e, mZ_0, mZ_1, mZ_ifb, if_true, if_false, n10, eq_self, reduceCtorEq, Bool.false_eq_true, Nat.add_zero, Nat.reduceAdd]
              · exact ⟨fun z => Bool.noConfusion z, fun _ => x3⟩
            | true =>
              rw [y2] at sn
              have D5 := x6 y1
              have f8 : Ff 2 8 D (mPut D 59 8 (nI (tV n b (tE n b (tE n b p))))) := Ff_put D0 (by decide) (by decide) (by decide)
              have E8 : (mPut D 59 8 (nI (tV n b (tE n b (tE n b p))))).2.1 59 8 = nI (tV n b (tE n b (tE n b p))) := by rw [mPut_g, if_pos ⟨rfl, rfl⟩]
              have E3 : (mPut D 59 8 (nI (tV n b (tE n b (tE n b p))))).2.1 59 3 = nI (tE n b (tE n b (tE n b p))) := by rw [mPut_g, if_neg (by decide)]; exact x4
              obtain ⟨F, u1, u2, u3⟩ := x_ti95 f8.1 hn hb (tE_le (b := b) l1).2 (xC_f f8 (by decide) tD) E3
              have pe : pI2 n b (tK n b p) (tE n b (tE n b p)) = pI3 n b (tE n b (tE n b (tE n b p))) := by unfold pI2; rw [if_pos ⟨y1, y2⟩]
              rw [pe]
              refine ⟨F, ?_, Ff_tr fD (Ff_tr f8 (Ff_wd u2 (by decide) (by decide))), u3, fun _ => ⟨(u2.2.2 6 (by decide)).trans (by rw [mPut_g, if_neg (by decide)]; exact D6), (u2.2.2 7 (by decide)).trans (by rw [mPut_g, if_neg (by decide)]; exact D7), fun _ => (u2.2.2 8 (by decide)).trans E8⟩⟩
              simp (maxDischargeDepth := 40) only [f_X4_takeItem, hL, gc_0, gc_1, gc_2, gc_3, gc_4, gc_5, Ly_put, kcf, kca, h4, hA, A0, mb, b1, B0, b5, B5, e1, d1e, fn, hC, C0, C6, z4, g4, z8, g8, x1, D0, x5, w1, y1e, sn, D5, u1, mCp_e, mC_e, mCv_e, mZ_0, mZ_1, mZ_ifb, if_true, if_false, n10, eq_self, reduceCtorEq, Bool.false_eq_true, Nat.add_zero, Nat.reduceAdd]
          · have y1e : (tK n b (tE n b (tE n b p)) = 1) = False := eq_false y1
            have pe : pI2 n b (tK n b p) (tE n b (tE n b p)) = (false, tS n b (tE n b (tE n b p))) := by unfold pI2; rw [if_neg (fun z => y1 z.1)]
            rw [pe]
            refine ⟨D, ?_, fD, ?_, fun z => Bool.noConfusion z⟩
            · simp (maxDischargeDepth := 40) only [f_X4_takeItem, f_X4_takeItem_85, hL, gc_0, gc_1, gc_2, gc_3, gc_4, gc_5, Ly_put, kcf, kca, h4, hA, A0, mb, b1, B0, b5, B5, e1, d1e, fn, hC, C0, C6, z4, g4, z8, g8, x1, D0, x5, w1, y1e, mCp_e, mC_e, mCv_e, mZ_0, mZ_1, mZ_ifb, if_true, if_false, n10, eq_self, reduceCtorEq, Bool.false_eq_true, Nat.add_zero, Nat.reduceAdd]
            · exact ⟨fun z => Bool.noConfusion z, fun _ => x3⟩
    · have d1e : (tK n b (tE n b p) = 1) = False := eq_false d1
      have pe : pI1 n b (tK n b p) h.w (tE n b p) = (false, tS n b (tE n b p)) := by unfold pI1; rw [if_neg (fun z => d1 z.1)]
      rw [pe]
      refine ⟨B, ?_, fB, ?_, fun z => Bool.noConfusion z⟩
      · simp (maxDischargeDepth := 40) only [f_X4_takeItem, f_X4_takeItem_39, hL, gc_0, gc_1, gc_2, gc_3, gc_4, gc_5, Ly_put, kcf, kca, h4, hA, A0, mb, b1, B0, b5, e1, d1e, mCp_e, mC_e, mCv_e, mZ_0, mZ_1, mZ_ifb, if_true, if_false, n10, eq_self, reduceCtorEq, Bool.false_eq_true, Nat.add_zero, Nat.reduceAdd]
      · exact ⟨fun z => Bool.noConfusion z, fun _ => b3⟩
