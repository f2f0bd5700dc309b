/-! READING THE PURE FUNCTIONS: the memory's cells as the law's objects have them -/
def cst (k j : Nat) : Bool := decide ((mTg (mKd k))[j]? = some 2) || ((mKd k == 3 && decide (j < 2)) || (mKd k == 11 && decide (j < 2)))
def cvl (k j : Nat) : Nat :=
  if mKd k = 1 then k + 1 + j
  else if mKd k = 2 then k + 1
  else if mKd k = 3 then (if j = 2 then k + 1 else if k = 7 ∨ k = 21 ∨ k = 36 ∨ k = 50 then (if j = 0 then 5 else 2) else (if j = 0 then 6 else 3))
  else if mKd k = 4 then 60
  else if mKd k = 5 then [k + 1, k + 6, k + 8, k + 10, k + 12].getD j 0
  else if mKd k = 6 then [1, 15, 29, 58, 59, 61, 65, 70, 75, 80, 81, 82].getD j 0
  else if mKd k = 0 then 62 + j
  else if mKd k = 11 then (if j = 0 then 30 else 44)
  else [84, 0, 0, 0, 0, 0, 0, 0, 85, 86, 87, 88, 89, 90, 91, 92, 0, 0, 0, 93, 94, 0, 95, 96, 97, 0, 0, 98, 99].getD j 0
def Ly (S : mS) : Prop := S.1 = 100 ∧ ∀ k, k < 100 → ∀ j, cst k j = true → S.2.1 k j = nI (cvl k j)
theorem nI_n0 {n : Nat} (h : n < 2147483648) : (nI n < 0) = False := eq_false (nI_pos h)
theorem nI_cl {n : Nat} (h : n < 2147483648) : (nI n).toNatClampNeg = n := nI_clamp h
theorem mKd_lt {k ci : Nat} (h : mKd k = ci) (hc : ci < 12) : k < 100 := by
  rcases Nat.lt_or_ge k 100 with h1 | h1
  · exact h1
  · unfold mKd at h
    rw [List.getD_eq_getElem?_getD, List.getElem?_eq_none (show mT.length ≤ k from h1)] at h
    simp only [Option.getD_none] at h
    omega
theorem mIs_e {S : mS} {k ci : Nat} (h1 : S.1 = 100) (h2 : mKd k = ci) (h3 : ci < 12) : mIs ci (nI k) S = true := by
  have hk := mKd_lt h2 h3
  unfold mIs
  rw [nI_cl (by omega), h1]
  simp [nI_pos (n := k) (by omega), hk, h2]
theorem mIn_e {i n : Nat} (h : i < n) (hn : n < 2147483648) : mIn (nI i) n = true := by
  unfold mIn
  rw [nI_cl (by omega)]
  simp [nI_pos (n := i) (by omega), h]
section EV
variable {ρ α : Type} {S : mS}
theorem mG_e {k ci j : Nat} {K : Int32 → Option ρ} (h1 : S.1 = 100) (h2 : mKd k = ci) (h3 : ci < 12) : mG ci j (nI k) S K = K (S.2.1 k j) := by
  rw [mG, if_pos (mIs_e h1 h2 h3), nI_cl (by have := mKd_lt h2 h3; omega)]
theorem mGr_e {k ci j v : Nat} {K : Int32 → Option ρ} (h1 : S.1 = 100) (h2 : mKd k = ci) (h3 : ci < 12) (hv : S.2.1 k j = nI v) (h4 : v < 2147483648) : mGr ci j (nI k) S K = K (nI v) := by
  rw [mGr, if_pos (mIs_e h1 h2 h3), nI_cl (by have := mKd_lt h2 h3; omega), hv, if_neg (nI_pos h4)]
theorem mGl_e {k ci j : Nat} {K : Int64 → Option ρ} (h1 : S.1 = 100) (h2 : mKd k = ci) (h3 : ci < 12) : mGl ci j (nI k) S K = K (S.2.2 k j) := by
  rw [mGl, if_pos (mIs_e h1 h2 h3), nI_cl (by have := mKd_lt h2 h3; omega)]
theorem mP_e {k ci j : Nat} {v : Int32} {K : mS → Option ρ} (h1 : S.1 = 100) (h2 : mKd k = ci) (h3 : ci < 12) : mP ci j (nI k) v S K = K (mPut S k j v) := by
  rw [mP, if_pos (mIs_e h1 h2 h3), nI_cl (by have := mKd_lt h2 h3; omega)]
theorem mPl_e {k ci j : Nat} {v : Int64} {K : mS → Option ρ} (h1 : S.1 = 100) (h2 : mKd k = ci) (h3 : ci < 12) : mPl ci j (nI k) v S K = K (mPutL S k j v) := by
  rw [mPl, if_pos (mIs_e h1 h2 h3), nI_cl (by have := mKd_lt h2 h3; omega)]
theorem mLn_lt (k : Nat) : mLn k < 2147483648 := by
  rcases Nat.lt_or_ge k 100 with h | h
  · have : ∀ k, k < 100 → mLn k < 2147483648 := by decide +kernel
    exact this k h
  · unfold mLn
    rw [List.getD_eq_getElem?_getD, List.getElem?_eq_none (show mT.length ≤ k from h)]
    decide
theorem mX_e {k kd i : Nat} {K : Int32 → Option ρ} (h1 : S.1 = 100) (h2 : mKd k = kd) (h3 : kd < 12) (hi : i < mLn k) : mX kd (nI k) (nI i) S K = K (S.2.1 k i) := by
  have hl := mLn_lt k
  rw [mX, nI_cl (n := k) (by have := mKd_lt h2 h3; omega), if_pos (by rw [mIs_e h1 h2 h3, mIn_e hi hl]; rfl), nI_cl (by omega)]
theorem mXs_e {k i : Nat} {v : Int32} {K : mS → Option ρ} (h1 : S.1 = 100) (h2 : mKd k = 8) (hi : i < mLn k) : mXs (nI k) (nI i) v S K = K (mPut S k i v) := by
  have hl := mLn_lt k
  rw [mXs, nI_cl (n := k) (by have := mKd_lt h2 (by decide); omega), if_pos (by rw [mIs_e h1 h2 (by decide), mIn_e hi hl]; rfl), nI_cl (by omega)]
theorem mXb_e {k i : Nat} {v : Int32} {K : mS → Option ρ} (h1 : S.1 = 100) (h2 : mKd k = 9) (hi : i < mLn k) : mXb (nI k) (nI i) v S K = K (mPut S k i (vp_nar .byte v)) := by
  have hl := mLn_lt k
  rw [mXb, nI_cl (n := k) (by have := mKd_lt h2 (by decide); omega), if_pos (by rw [mIs_e h1 h2 (by decide), mIn_e hi hl]; rfl), nI_cl (by omega)]
theorem mXz_e {k i : Nat} {v : Int32} {K : mS → Option ρ} (h1 : S.1 = 100) (h2 : mKd k = 10) (hi : i < mLn k) : mXz (nI k) (nI i) v S K = K (mPut S k i (vp_nar .boolean v)) := by
  have hl := mLn_lt k
  rw [mXz, nI_cl (n := k) (by have := mKd_lt h2 (by decide); omega), if_pos (by rw [mIs_e h1 h2 (by decide), mIn_e hi hl]; rfl), nI_cl (by omega)]
theorem mXr_e {k i v : Nat} {K : Int32 → Option ρ} (h1 : S.1 = 100) (h2 : mKd k = 11) (hi : i < mLn k) (hv : S.2.1 k i = nI v) (h4 : v < 2147483648) : mXr (nI k) (nI i) S K = K (nI v) := by
  have hl := mLn_lt k
  rw [mXr, nI_cl (n := k) (by have := mKd_lt h2 (by decide); omega), if_pos (by rw [mIs_e h1 h2 (by decide), mIn_e hi hl]; rfl), nI_cl (n := i) (by omega), hv, if_neg (nI_pos h4)]
theorem mLe_e {k kd : Nat} {K : Int32 → Option ρ} (h1 : S.1 = 100) (h2 : mKd k = kd) (h3 : kd < 12) : mLe kd (nI k) S K = K (nI (mLn k)) := by
  rw [mLe, if_pos (mIs_e h1 h2 h3), nI_cl (by have := mKd_lt h2 h3; omega)]
  rfl
theorem mRc_e {k ci : Nat} {a : Option ρ} (h1 : S.1 = 100) (h2 : mKd k = ci) (h3 : ci < 12) : mRc ci (nI k) S a = a := by
  rw [mRc, if_pos (mIs_e h1 h2 h3)]
theorem mCy_e {k k2 a b n : Nat} {K : mS → Option ρ} (h1 : S.1 = 100) (h2 : mKd k = 8) (h3 : mKd k2 = 8) (g1 : a + n ≤ mLn k) (g2 : b + n ≤ mLn k2) : mCy (nI k) (nI a) (nI k2) (nI b) (nI n) S K = K (mRow S k2 (va_cpy (S.2.1 k) (S.2.1 k2) a b n)) := by
  have l1 := mLn_lt k
  have l2 := mLn_lt k2
  have k1 := mKd_lt h2 (by decide)
  have k3 := mKd_lt h3 (by decide)
  unfold mCy
  rw [nI_cl (n := k) (by omega), nI_cl (n := k2) (by omega), nI_cl (n := a) (by omega), nI_cl (n := b) (by omega), nI_cl (n := n) (by omega), if_pos]
  simp [mIs_e h1 h2 (by decide), mIs_e h1 h3 (by decide), nI_pos (n := a) (by omega), nI_pos (n := b) (by omega), nI_pos (n := n) (by omega), g1, g2]
theorem mC_e {r : α × mS} {K : α → mS → Option ρ} : mC (some r) K = K r.1 r.2 := rfl
theorem mCv_e {r : mS} {K : mS → Option ρ} : mCv (some r) K = K r := rfl
theorem mCp_e {r : α} {K : α → Option ρ} : mCp (some r) K = K r := rfl
theorem mZ_0 {a : Option ρ} : mZ 0 a = a := rfl
theorem mZ_1 {a : Option ρ} : mZ 1 a = a := rfl
theorem mNz_e {y : Int32} {a : Option ρ} (h : ¬ y = 0) : mNz y a = a := if_neg h
theorem mNzL_e {y : Int64} {a : Option ρ} (h : ¬ y = 0) : mNzL y a = a := if_neg h
end EV
/-! what is read behind writes -/
theorem mPut_1 (S : mS) (k j : Nat) (v : Int32) : (mPut S k j v).1 = S.1 := rfl
theorem mPut_g (S : mS) (k j k2 j2 : Nat) (v : Int32) : (mPut S k j v).2.1 k2 j2 = if k2 = k ∧ j2 = j then v else S.2.1 k2 j2 := by
  unfold mPut mRow upd
  by_cases h : k2 = k
  · subst h
    simp
  · simp [h]
theorem mPut_r (S : mS) (k j k2 : Nat) (v : Int32) (h : k2 ≠ k) : (mPut S k j v).2.1 k2 = S.2.1 k2 := by
  unfold mPut mRow
  simp [h]
theorem mPut_l (S : mS) (k j : Nat) (v : Int32) : (mPut S k j v).2.2 = S.2.2 := rfl
theorem mPutL_1 (S : mS) (k j : Nat) (v : Int64) : (mPutL S k j v).1 = S.1 := rfl
theorem mPutL_g (S : mS) (k j : Nat) (v : Int64) : (mPutL S k j v).2.1 = S.2.1 := rfl
theorem mPutL_l (S : mS) (k j k2 j2 : Nat) (v : Int64) : (mPutL S k j v).2.2 k2 j2 = if k2 = k ∧ j2 = j then v else S.2.2 k2 j2 := by
  unfold mPutL
  by_cases h : k2 = k
  · subst h
    simp
  · simp [h]
theorem mRow_1 (S : mS) (k : Nat) (f : Nat → Int32) : (mRow S k f).1 = S.1 := rfl
theorem mRow_g (S : mS) (k k2 j2 : Nat) (f : Nat → Int32) : (mRow S k f).2.1 k2 j2 = if k2 = k then f j2 else S.2.1 k2 j2 := by
  unfold mRow
  by_cases h : k2 = k <;> simp [h]
theorem mRow_r (S : mS) (k k2 : Nat) (f : Nat → Int32) (h : k2 ≠ k) : (mRow S k f).2.1 k2 = S.2.1 k2 := by
  unfold mRow
  simp [h]
theorem mRow_l (S : mS) (k : Nat) (f : Nat → Int32) : (mRow S k f).2.2 = S.2.2 := rfl
theorem cst_arr {k j : Nat} (h : mKd k = 8 ∨ mKd k = 9 ∨ mKd k = 10) : cst k j = false := by
  unfold cst
  rcases h with h | h | h <;> simp [h, mTg]
theorem Ly_put {S : mS} {k j : Nat} {v : Int32} (h : Ly S) (hc : cst k j = false) : Ly (mPut S k j v) := by
  refine ⟨h.1, fun k2 hk j2 hj => ?_⟩
  rw [mPut_g]
  by_cases e : k2 = k ∧ j2 = j
  · obtain ⟨rfl, rfl⟩ := e
    rw [hc] at hj
    cases hj
  · rw [if_neg e]
    exact h.2 k2 hk j2 hj
theorem Ly_row {S : mS} {k : Nat} {f : Nat → Int32} (h : Ly S) (hc : ∀ j, cst k j = false) : Ly (mRow S k f) := by
  refine ⟨h.1, fun k2 hk j2 hj => ?_⟩
  rw [mRow_g]
  by_cases e : k2 = k
  · subst e
    rw [hc] at hj
    cases hj
  · rw [if_neg e]
    exact h.2 k2 hk j2 hj
theorem Ly_putL {S : mS} {k j : Nat} {v : Int64} (h : Ly S) : Ly (mPutL S k j v) := ⟨h.1, h.2⟩
theorem Ly_at {S : mS} (h : Ly S) (k j v : Nat) (hk : k < 100) (hc : cst k j = true) (hv : cvl k j = v) : S.2.1 k j = nI v := (h.2 k hk j hc).trans (by rw [hv])
/-- cells from lo to hi alone may differ -/
def Fr (lo hi : Nat) (S S' : mS) : Prop := S'.1 = S.1 ∧ (∀ k, (k < lo ∨ hi ≤ k) → S'.2.1 k = S.2.1 k) ∧ S'.2.2 = S.2.2
theorem Fr_rf {lo hi : Nat} {S : mS} : Fr lo hi S S := ⟨rfl, fun _ _ => rfl, rfl⟩
theorem Fr_tr {lo hi : Nat} {S S' S'' : mS} (h : Fr lo hi S S') (h2 : Fr lo hi S' S'') : Fr lo hi S S'' := ⟨h2.1.trans h.1, fun k hk => (h2.2.1 k hk).trans (h.2.1 k hk), h2.2.2.trans h.2.2⟩
theorem Fr_wd {lo hi lo2 hi2 : Nat} {S S' : mS} (h : Fr lo hi S S') (h1 : lo2 ≤ lo) (h2 : hi ≤ hi2) : Fr lo2 hi2 S S' := ⟨h.1, fun k hk => h.2.1 k (by omega), h.2.2⟩
theorem Fr_put {lo hi : Nat} {S : mS} {k j : Nat} {v : Int32} (h1 : lo ≤ k) (h2 : k < hi) : Fr lo hi S (mPut S k j v) := ⟨rfl, fun q hq => mPut_r S k j q v (by omega), rfl⟩
theorem Fr_row {lo hi : Nat} {S : mS} {k : Nat} {f : Nat → Int32} (h1 : lo ≤ k) (h2 : k < hi) : Fr lo hi S (mRow S k f) := ⟨rfl, fun q hq => mRow_r S k q f (by omega), rfl⟩
/-! checks of numbers, of both sides -/
theorem x_in (v a b : Int32) : f_X6_isWithin v a b = some (if ¬ v < a ∧ ¬ b < v then 1 else 0) := by
  unfold f_X6_isWithin f_X6_isWithin_14 f_X6_isWithin_15
  by_cases h1 : v < a
  · simp [h1, mZ_0]
  · by_cases h2 : b < v
    · simp [h1, h2, mZ_0]
    · simp [h1, h2, mZ_1]
theorem y_in (v a b : Int32) : f_X7_in v a b = some (if ¬ v < a ∧ ¬ b < v then 1 else 0) := by
  unfold f_X7_in f_X7_in_14 f_X7_in_15
  by_cases h1 : v < a
  · simp [h1, mZ_0]
  · by_cases h2 : b < v
    · simp [h1, h2, mZ_0]
    · simp [h1, h2, mZ_1]
theorem nI_top {N j : Nat} (h : nI (N - 1) < nI j) (hj : j < N) (hN : N < 2147483648) : False := by
  rw [nI_ltI (by omega) (by omega)] at h
  omega
/-- a number from 0 to N - 1 -/
def dN (N : Nat) (v : Int32) : Bool := mIn v N
theorem in_dN {v : Int32} {N : Nat} (h0 : 0 < N) (h : N < 2147483648) : (¬ v < 0 ∧ ¬ nI (N - 1) < v) ↔ dN N v = true := by
  constructor
  · rintro ⟨h1, h2⟩
    obtain ⟨j, hj, rfl⟩ := nI_of h1
    have : ¬ N - 1 < j := fun z => h2 (nI_lt z hj)
    exact mIn_e (by omega) h
  · intro h1
    obtain ⟨j, hj, rfl⟩ := vp_in_of (mIn_spec h1) h
    exact ⟨nI_pos (by omega), fun z => nI_top z hj h⟩
theorem dN_some {v : Int32} {N : Nat} (h : dN N v = true) (hN : N < 2147483648) : ∃ j, j < N ∧ v = nI j := vp_in_of (mIn_spec h) hN
theorem dN_nI {j N : Nat} (h : j < N) (hN : N < 2147483648) : dN N (nI j) = true := mIn_e h hN
theorem mZ_if {ρ : Type} {c : Prop} {i : Decidable c} {a : Int32 → Option ρ} : mZ (if c then 1 else 0) (a (if c then 1 else 0)) = a (if c then 1 else 0) := by
  by_cases h : c <;> simp [h, mZ_0, mZ_1]
