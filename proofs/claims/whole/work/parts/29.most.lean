/-! the most alike, the first least -/
def mx (g : Nat → Nat) : Nat → Nat
  | 0 => 0
  | n + 1 => max (mx g n) (g n)
theorem mx_s (g : Nat → Nat) (n : Nat) : mx g (n + 1) = max (mx g n) (g n) := rfl
theorem mx_le {g : Nat → Nat} {M : Nat} {n : Nat} (h : ∀ j, j < n → g j ≤ M) : mx g n ≤ M := by
  induction n with
  | zero => exact Nat.zero_le _
  | succ n ih =>
    rw [mx_s]
    exact Nat.max_le.mpr ⟨ih (fun j hj => h j (by omega)), h n (by omega)⟩
theorem mx_eq {g f : Nat → Nat} {n : Nat} (h : ∀ j, j < n → g j = f j) : mx g n = mx f n := by
  induction n with
  | zero => rfl
  | succ n ih => rw [mx_s, mx_s, ih (fun j hj => h j (by omega)), h n (by omega)]
def flB (g : Nat → Nat) : Nat → Nat
  | 0 => 0
  | j + 1 => if g j < g (flB g j) then j else flB g j
theorem flB_s (g : Nat → Nat) (j : Nat) : flB g (j + 1) = if g j < g (flB g j) then j else flB g j := rfl
theorem flB_lt {g : Nat → Nat} {j : Nat} (h : 0 < j) : flB g j < j := by
  induction j with
  | zero => omega
  | succ j ih =>
    rw [flB_s]
    split
    · omega
    · by_cases e : j = 0
      · subst e
        exact Nat.zero_lt_one
      · have := ih (by omega)
        omega
theorem flB_eq {g f : Nat → Nat} {n : Nat} (h : ∀ j, j < n → g j = f j) : flB g n = flB f n := by
  induction n with
  | zero => rfl
  | succ n ih =>
    have e := ih (fun j hj => h j (by omega))
    rw [flB_s, flB_s, e, h n (by omega)]
    by_cases z : n = 0
    · subst z
      rw [h (flB f 0) (by show 0 < 0 + 1; omega)]
    · rw [h (flB f n) (by have := flB_lt (g := f) (show 0 < n by omega); omega)]
/-- what stands in a row of those that hold -/
theorem cnt_row {p : Nat → Bool} {val row : Nat → Nat} {N : Nat} (h : ∀ j, j < N → p j = true → row (cnt p j) = val j) (x : Nat) : cnt (fun o => decide (row o = x)) (cnt p N) = cnt (fun b => p b && decide (val b = x)) N := by
  induction N with
  | zero => rfl
  | succ N ih =>
    have ih := ih (fun j hj => h j (by omega))
    rw [cnt_s p, cnt_s (fun b => p b && decide (val b = x))]
    cases c : p N with
    | false => simpa using ih
    | true =>
      rw [if_pos rfl, cnt_s, ih, h N (by omega) c]
      simp
theorem mx_row {p : Nat → Bool} {val row g : Nat → Nat} {N : Nat} (h : ∀ j, j < N → p j = true → row (cnt p j) = val j) : mx (fun o => g (row o)) (cnt p N) = mx (fun a => if p a = true then g (val a) else 0) N := by
  induction N with
  | zero => rfl
  | succ N ih =>
    have ih := ih (fun j hj => h j (by omega))
    rw [cnt_s p, mx_s (fun a => if p a = true then g (val a) else 0)]
    cases c : p N with
    | false =>
      simp (maxDischargeDepth := 40) only [Bool.false_eq_true, if_false, Nat.add_zero, Nat.max_zero]
      exact ih
    | true =>
      rw [if_pos rfl, mx_s, ih, h N (by omega) c, if_pos rfl]
/-- how many of the most are alike -/
def mAl (p : Nat → Bool) (val : Nat → Nat) (N : Nat) : Nat := mx (fun a => if p a = true then cnt (fun b => p b && decide (val b = val a)) N else 0) N
theorem mAl_le (p : Nat → Bool) (val : Nat → Nat) (N : Nat) : mAl p val N ≤ N := mx_le (fun j _ => by
  show (if p j = true then cnt _ N else 0) ≤ N
  split
  · exact cnt_le _ _
  · exact Nat.zero_le _)
theorem mMin_i {a b : Nat} (h : a ≤ b) (hb : b < 2147483648) : mMin (nI a) (nI b) = nI a := by
  unfold mMin
  simp (maxDischargeDepth := 40) only [lt_i hb (show a < 2147483648 by omega)]
  rw [if_neg (by omega)]
theorem mMax_i {a b : Nat} (ha : a < 2147483648) (hb : b < 2147483648) : mMax (nI a) (nI b) = nI (max a b) := by
  unfold mMax
  simp (maxDischargeDepth := 40) only [lt_i ha hb]
  by_cases c : a < b
  · rw [if_pos c, Nat.max_eq_right (by omega)]
  · rw [if_neg c, Nat.max_eq_left (by omega)]
theorem x_mostA {S : mS} {row : Nat → Nat} {m : Nat} (hL : Ly S) (hm : m ≤ 6) (hr : ∀ o, o < m → row o < 1000 ∧ S.2.1 80 o = nI (row o)) : f_X6_mostAlike (nI 80) (nI m) S = some (nI (mx (fun o => cnt (fun q => decide (row q = row o)) m) m)) := by
  obtain ⟨z, e⟩ := lup (fun n j => f_X6_mostAlike_12 (f_X6_mostAlike_63 S) S n (nI 80) (nI m) (nI (mx (fun o => cnt (fun q => decide (row q = row o)) m) j)) (nI j)) m (fun n j hj => by
    have le : (nI m ≤ nI j) = False := eq_false (nI_ge hj (by omega))
    have j6 : j < 6 := by omega
    show f_X6_mostAlike_12 (f_X6_mostAlike_63 S) S (n + 1) _ _ _ _ = _
    rw [f_X6_mostAlike_12_s]
    simp (maxDischargeDepth := 40) only [le, mCp_e, mC_e, mCv_e, mZ_0, mZ_1, mZ_ifb, if_true, if_false, n10, eq_self, reduceCtorEq, Bool.false_eq_true, Nat.add_zero, Nat.reduceAdd]
    obtain ⟨z2, e2⟩ := lup (fun n2 q => f_X6_mostAlike_24 (f_X6_mostAlike_50 (f_X6_mostAlike_12 (f_X6_mostAlike_63 S) S n) S) S n2 (nI 80) (nI m) (nI (mx (fun o => cnt (fun q => decide (row q = row o)) m) j)) (nI j) (nI (cnt (fun q => decide (row q = row j)) q)) (nI q)) m (fun n2 q hq => by
      have le2 : (nI m ≤ nI q) = False := eq_false (nI_ge hq (by omega))
      have q6 : q < 6 := by omega
      have qe : (nI (row q) = nI (row j)) = (row q = row j) := eq_i (by have := (hr q hq).1; omega) (by have := (hr j hj).1; omega)
      show f_X6_mostAlike_24 _ S (n2 + 1) _ _ _ _ _ _ = _
      rw [f_X6_mostAlike_24_s, cnt_s]
      simp (maxDischargeDepth := 40) only [hL, gc_0, gc_1, gc_2, gc_3, gc_4, gc_5, Ly_put, kcf, kca, le2, j6, q6, (hr q hq).2, (hr j hj).2, qe, f_X6_mostAlike_44, nI_1, decide_eq_true_eq, mCp_e, mC_e, mCv_e, mZ_0, mZ_1, mZ_ifb, if_true, if_false, n10, eq_self, reduceCtorEq, Bool.false_eq_true, Nat.add_zero, Nat.reduceAdd]
      by_cases c : row q = row j
      · rw [if_pos c, if_pos c]
      · simp (maxDischargeDepth := 40) only [if_neg c, Nat.add_zero]) 1000 (by omega)
    refine Eq.trans e2 ?_
    rw [f_X6_mostAlike_24_s]
    simp (maxDischargeDepth := 40) only [ng_i, f_X6_mostAlike_50, nI_1, mCp_e, mC_e, mCv_e, mZ_0, mZ_1, mZ_ifb, if_true, if_false, n10, eq_self, reduceCtorEq, Bool.false_eq_true, Nat.add_zero, Nat.reduceAdd]
    rw [mMax_i (by have := mx_le (g := fun o => cnt (fun q => decide (row q = row o)) m) (M := m) (n := j) (fun i _ => cnt_le _ _); omega) (by have := cnt_le (fun q => decide (row q = row j)) m; omega), mx_s]) 1000 (by omega)
  have ml : ∀ K : Int32 → Option Int32, mLe 8 (nI 80) S K = K (nI 6) := fun K => mLe_e hL.1 rfl (by decide)
  unfold f_X6_mostAlike
  rw [ml, mMin_i hm (by decide)]
  refine Eq.trans e ?_
  rw [f_X6_mostAlike_12_s]
  simp (maxDischargeDepth := 40) only [ng_i, f_X6_mostAlike_63, mCp_e, mC_e, mCv_e, mZ_0, mZ_1, mZ_ifb, if_true, if_false, n10, eq_self, reduceCtorEq, Bool.false_eq_true, Nat.add_zero, Nat.reduceAdd]
theorem x_firstL {S : mS} {g : Nat → Nat} {N : Nat} (hL : Ly S) (h1 : 1 ≤ N) (hN : N ≤ 30) (hr : ∀ o, o < N → g o < 1000 ∧ S.2.1 81 o = nI (g o)) : f_X6_firstLeast (nI 81) (nI N) S = some (nI (flB g N)) := by
  obtain ⟨z, e⟩ := lup (fun n j => f_X6_firstLeast_12 (f_X6_firstLeast_37 S) S n (nI 81) (nI N) (nI (flB g (j + 1))) (nI (j + 1))) (N - 1) (fun n j hj => by
    have le : (nI N ≤ nI (j + 1)) = False := eq_false (nI_ge (by omega) (by omega))
    have j6 : j + 1 < 30 := by omega
    have fl := flB_lt (g := g) (show 0 < j + 1 by omega)
    have f6 : flB g (j + 1) < 30 := by omega
    have hq := hr (flB g (j + 1)) (by omega)
    have hj2 := hr (j + 1) (by omega)
    have qe : (nI (g (flB g (j + 1))) ≤ nI (g (j + 1))) = (g (flB g (j + 1)) ≤ g (j + 1)) := le_i (by omega) (by omega)
    show f_X6_firstLeast_12 (f_X6_firstLeast_37 S) S (n + 1) _ _ _ _ = _
    rw [f_X6_firstLeast_12_s, flB_s g (j + 1)]
    simp (maxDischargeDepth := 40) only [hL, gc_0, gc_1, gc_2, gc_3, gc_4, gc_5, Ly_put, kcf, kca, le, j6, f6, hq.2, hj2.2, qe, f_X6_firstLeast_31, nI_1, mCp_e, mC_e, mCv_e, mZ_0, mZ_1, mZ_ifb, if_true, if_false, n10, eq_self, reduceCtorEq, Bool.false_eq_true, Nat.add_zero, Nat.reduceAdd]
    by_cases c : g (flB g (j + 1)) ≤ g (j + 1)
    · rw [if_pos c, if_neg (by omega)]
    · rw [if_neg c, if_pos (by omega)]) 1000 (by omega)
  have ml : ∀ K : Int32 → Option Int32, mLe 8 (nI 81) S K = K (nI 30) := fun K => mLe_e hL.1 rfl (by decide)
  have f1 : flB g (0 + 1) = 0 := by rw [flB_s]; exact if_neg (by show ¬ g 0 < g 0; omega)
  rw [f1] at e
  unfold f_X6_firstLeast
  rw [ml, mMin_i hN (by decide)]
  refine Eq.trans e ?_
  rw [f_X6_firstLeast_12_s, Nat.sub_add_cancel h1]
  simp (maxDischargeDepth := 40) only [ng_i, f_X6_firstLeast_37, mCp_e, mC_e, mCv_e, mZ_0, mZ_1, mZ_ifb, if_true, if_false, n10, eq_self, reduceCtorEq, Bool.false_eq_true, Nat.add_zero, Nat.reduceAdd]
/-! the reference's best: none, much, to begin with -/
theorem y_gr {a b : Nat} (ha : a < 2147483648) (hb : b < 2147483648) : f_X7_greater (nI a) (nI b) = some (nI (max a b)) := by
  unfold f_X7_greater f_X7_greater_10
  simp (maxDischargeDepth := 40) only [le_i ha hb]
  by_cases c : a ≤ b
  · rw [if_pos c, Nat.max_eq_right c]
  · rw [if_neg c, Nat.max_eq_left (by omega)]
theorem y_le {a b : Nat} (ha : a < 2147483648) (hb : b < 2147483648) : f_X7_lesser (nI a) (nI b) = some (nI (min a b)) := by
  unfold f_X7_lesser f_X7_lesser_10
  simp (maxDischargeDepth := 40) only [le_i hb ha]
  by_cases c : b ≤ a
  · rw [if_pos c, Nat.min_eq_right c]
  · rw [if_neg c, Nat.min_eq_left (by omega)]
def bB (g : Nat → Nat) (j : Nat) : Int32 := if j = 0 then -1 else nI (flB g j)
def bL (g : Nat → Nat) (j : Nat) : Nat := if j = 0 then 1048576 else g (flB g j)
theorem bB_s {g : Nat → Nat} {j : Nat} (h : g j < 1048576) : bB g (j + 1) = (if bL g j ≤ g j then bB g j else nI j) ∧ bL g (j + 1) = min (bL g j) (g j) := by
  by_cases e : j = 0
  · subst e
    have f1 : flB g (0 + 1) = 0 := by rw [flB_s]; exact if_neg (by show ¬ g 0 < g 0; omega)
    rw [show bB g (0 + 1) = nI (flB g (0 + 1)) from rfl, show bL g (0 + 1) = g (flB g (0 + 1)) from rfl, show bL g 0 = 1048576 from rfl, f1, if_neg (by omega), Nat.min_eq_right (by omega)]
    exact ⟨rfl, rfl⟩
  · have b1 : bB g j = nI (flB g j) := if_neg e
    have b2 : bL g j = g (flB g j) := if_neg e
    have b3 : bB g (j + 1) = nI (flB g (j + 1)) := if_neg (by omega)
    have b4 : bL g (j + 1) = g (flB g (j + 1)) := if_neg (by omega)
    rw [b1, b2, b3, b4, flB_s]
    by_cases c : g j < g (flB g j)
    · rw [if_pos c, if_neg (by omega), Nat.min_eq_right (by omega)]
      exact ⟨rfl, rfl⟩
    · rw [if_neg c, if_pos (by omega), Nat.min_eq_left (by omega)]
      exact ⟨rfl, rfl⟩
theorem bL_lt {g : Nat → Nat} {j : Nat} (h : ∀ i, i < j → g i < 1048576) : bL g j < 2147483648 := by
  unfold bL
  split
  · decide
  · have := h (flB g j) (flB_lt (by omega))
    omega
