/-! THE HERD: where a whistle goes, where a sheep gives way to, a call -/
def aT (h : HS) (i d t : Nat) : Nat := pMv (h.wc i) d (pR (h.wk i) t)
def aG (h : HS) (s i d : Nat) : Nat := pGv (h.sk s) (h.sc s) (aT h i d h.t)
def hC (h : HS) (i d : Nat) : HS := (h.w, h.f, h.t + 1, h.wk, fun j => if j = i then aT h i d h.t else h.wc j, h.sk, fun s => aG h s i d)
def cnt (p : Nat → Bool) : Nat → Nat
  | 0 => 0
  | n + 1 => cnt p n + (if p n = true then 1 else 0)
theorem cnt_le (p : Nat → Bool) (n : Nat) : cnt p n ≤ n := by
  induction n with
  | zero => exact Nat.le_refl 0
  | succ n ih =>
    unfold cnt
    split <;> omega
theorem cnt_eq {p q : Nat → Bool} {n : Nat} (h : ∀ j, j < n → p j = q j) : cnt p n = cnt q n := by
  induction n with
  | zero => rfl
  | succ n ih =>
    unfold cnt
    rw [ih (fun j hj => h j (by omega)), h n (by omega)]
def nC (h : HS) (i d : Nat) : Nat := cnt (fun s => decide (aG h s i d ≠ h.sc s)) h.f
theorem pR_lt (k t : Nat) : pR k t < 5 := by
  unfold pR
  have := Nat.mod_lt t (show 0 < 2 by decide)
  repeat' split
  all_goals omega
theorem pW_lt : ∀ a, a < 25 → ∀ b, b < 25 → pWay a b < 5 := by decide +kernel
theorem aT_lt {h : HS} {i d t : Nat} (hv : VH h) (hi : i < h.w) (hd : d < 5) : aT h i d t < 25 := p_moved _ (hv.2.2.2.1 i hi).2 _ hd _ (pR_lt _ _)
theorem aG_lt {h : HS} {s i d : Nat} (hv : VH h) (hs : s < h.f) (hi : i < h.w) (hd : d < 5) : aG h s i d < 25 := p_gives _ (hv.2.2.2.2 s hs).1 _ (hv.2.2.2.2 s hs).2 _ (aT_lt hv hi hd)
theorem VH_C {h : HS} {i d : Nat} (hv : VH h) (ht : h.t + 1 ≤ 20000) (hi : i < h.w) (hd : d < 5) : VH (hC h i d) := by
  refine ⟨hv.1, hv.2.1, ht, fun j hj => ⟨(hv.2.2.2.1 j hj).1, ?_⟩, fun s hs => ⟨(hv.2.2.2.2 s hs).1, aG_lt hv hs hi hd⟩⟩
  show (if j = i then aT h i d h.t else h.wc j) < 25
  split
  · exact aT_lt hv hi hd
  · exact (hv.2.2.2.1 j hj).2
/-! how far a whistle goes in a step, of both sides: what counts is the step by 30 and whether it is 20 or more -/
theorem rm_t (t m : Nat) (h : t ≤ 20000) (hm : m = 2 ∨ m = 3 ∨ m = 5) : mRem (nI t) (nI m) = nI (t % m) := by
  have hd : (nI t / nI m : Int32) = nI (t / m) := by
    rw [← Int32.toInt_inj, Int32.toInt_div, nI_toInt (by omega), nI_toInt (by omega), nI_toInt (by have := Nat.div_le_self t m; omega), ← Int.ofNat_tdiv]
    have := Nat.div_le_self t m
    generalize t / m = q at this ⊢
    apply Int.bmod_eq_of_le <;> omega
  unfold mRem
  rw [hd, nI_mul, nI_sub (Nat.div_mul_le_self t m)]
  congr 1
  have := Nat.div_add_mod t m
  rw [Nat.mul_comm] at this
  omega
theorem x_reach {k t : Nat} (hk : k < 6) (ht : t ≤ 20000) : f_X6_whistleReach (nI k) (nI t) = some (nI (pR k t)) ∧ f_X7_goesBy (nI k) (nI t) = some (nI (pR k t)) := by
  have e3 : mRem (nI t) 3 = nI (t % 3) := rm_t t 3 ht (by omega)
  have e5 : mRem (nI t) 5 = nI (t % 5) := rm_t t 5 ht (by omega)
  have e2 : mRem (nI t) 2 = nI (t % 2) := rm_t t 2 ht (by omega)
  have z3 : (nI (t % 3) = 0) = (t % 3 = 0) := eq_i (b := 0) (by omega) (by decide)
  have z5 : (nI (t % 5) = 0) = (t % 5 = 0) := eq_i (b := 0) (by omega) (by decide)
  have z2 : (nI (t % 2) = 1) = (t % 2 = 1) := eq_i (b := 1) (by omega) (by decide)
  have z20 : (nI t < 20) = (t < 20) := lt_i (b := 20) (by omega) (by decide)
  unfold f_X6_whistleReach f_X7_goesBy f_X6_whistleReach_17 f_X7_goesBy_11 f_X6_whistleReach_74 f_X6_whistleReach_89 f_X6_whistleReach_105 f_X7_goesBy_63 f_X7_goesBy_83 pR
  simp only [e3, e5, e2, z3, z5, z2, z20]
  rcases (show k = 0 ∨ k = 1 ∨ k = 2 ∨ k = 3 ∨ k = 4 ∨ k = 5 by omega) with rfl | rfl | rfl | rfl | rfl | rfl <;> by_cases c3 : t % 3 = 0 <;> by_cases c5 : t % 5 = 0 <;> by_cases c20 : t < 20 <;> rcases (show t % 2 = 0 ∨ t % 2 = 1 by omega) with c2 | c2 <;> simp only [c3, c5, c2, c20, Nat.not_le.mpr, Nat.not_lt.mp, if_true, if_false, show (20 ≤ t) = ¬ t < 20 from propext Nat.not_lt.symm, not_true, not_false_eq_true] <;> decide
theorem n10 : ((1 : Int32) = 0) = False := by decide
theorem x_wTo {S : mS} {o : Nat} {h : HS} {i d : Nat} (ho : HO o) (hL : Ly S) (hr : RH S o h) (hv : VH h) (hi : i < h.w) (hd : d < 5) : f_X1_whistleTo (nI o) (nI i) (nI d) S = some (nI (aT h i d h.t)) := by
  have hw := hv.1
  have k := hv.2.2.2.1 i hi
  have i3 : i < 3 := by omega
  simp only [f_X1_whistleTo, hgs ho hL, x_hasW _ ho hL hr (by omega), dN_nI hi (by omega), mCp_e, if_true, n10, if_false, i3, hr.2.2.1, (hr.2.2.2.1 i hi).1, (hr.2.2.2.1 i hi).2, (x_reach k.1 hv.2.2.1).1, x_moved _ k.2 _ hd _ (pR_lt _ _), f_X1_whistleTo_35]
  rfl
theorem x_sTo {S : mS} {o : Nat} {h : HS} {s i d : Nat} (ho : HO o) (hL : Ly S) (hr : RH S o h) (hv : VH h) (hs : s < h.f) (hi : i < h.w) (hd : d < 5) : f_X1_sheepTo (nI o) (nI s) (nI i) (nI d) S = some (nI (aG h s i d)) := by
  have hf := hv.2.1
  have k := hv.2.2.2.2 s hs
  have s7 : s < 7 := by omega
  simp only [f_X1_sheepTo, hgs ho hL, x_hasS _ ho hL hr (by omega), dN_nI hs (by omega), mCp_e, if_true, n10, if_false, s7, (hr.2.2.2.2 s hs).1, (hr.2.2.2.2 s hs).2, x_wTo ho hL hr hv hi hd, x_gives _ k.1 _ k.2 _ (aT_lt hv hi hd), f_X1_sheepTo_33]
  rfl
theorem y_wTh {S : mS} {h : HS} {i c d t : Nat} (hL : Ly S) (hr : RM S h) (hv : VH h) (hi : i < h.w) (hc : c < 25) (hd : d < 5) (ht : t ≤ 20000) : f_X7_whistleThen (nI 83) (nI i) (nI c) (nI d) (nI t) S = some (nI (pMv c d (pR (h.wk i) t))) := by
  have hw := hv.1
  have k := hv.2.2.2.1 i hi
  have i3 : i < 3 := by omega
  have e4 : (nI d = 4) = (d = 4) := eq_i (b := 4) (by omega) (by decide)
  unfold f_X7_whistleThen
  simp only [e4]
  by_cases h4 : d = 4
  · rw [if_pos h4, h4]
    rfl
  · rw [if_neg h4]
    simp only [gc_0 hL, gc_1 hL, gc_2 hL, gc_3 hL, gc_4 hL, gc_5 hL, i3, (hr.2.2.2.1 i hi).1, (x_reach k.1 ht).2, mCp_e, y_moved _ hc _ hd _ (pR_lt _ _), f_X7_whistleThen_25]
theorem y_gb : ∀ k, k < 6 → ∀ a, a < 25 → ∀ b, b < 25 → (mCp (f_X7_far (nI a) (nI b)) (fun r3 => mCp (f_X7_givesBy (nI k) r3) (fun r4 => mCp (f_X7_off ((nI a / 5) - (nI b / 5)) 0) (fun r5 => if r5 < 1 then ((f_X7_sheepThen_63 mS0) (nI a) r4 ((nI a / 5) - (nI b / 5)) ((mRem (nI a) 5) - (mRem (nI b) 5))) else (mCp (f_X7_off ((mRem (nI a) 5) - (mRem (nI b) 5)) 0) (fun r7 => if r5 < r7 then ((f_X7_sheepThen_63 mS0) (nI a) r4 ((nI a / 5) - (nI b / 5)) ((mRem (nI a) 5) - (mRem (nI b) 5))) else ((f_X7_sheepThen_64 mS0) (nI a) r4 ((nI a / 5) - (nI b / 5)) ((mRem (nI a) 5) - (mRem (nI b) 5)) 1))))))) = some (nI (pGv k a b)) := by decide +kernel
theorem y_sTh {S : mS} {h : HS} {s a b : Nat} (hL : Ly S) (hr : RM S h) (hv : VH h) (hs : s < h.f) (ha : a < 25) (hb : b < 25) : f_X7_sheepThen (nI 83) (nI s) (nI a) (nI b) S = some (nI (pGv (h.sk s) a b)) := by
  have hf := hv.2.1
  have k := hv.2.2.2.2 s hs
  have s7 : s < 7 := by omega
  unfold f_X7_sheepThen
  simp only [gc_0 hL, gc_1 hL, gc_2 hL, gc_3 hL, gc_4 hL, gc_5 hL, s7, (hr.2.2.2.2 s hs).1]
  exact y_gb _ k.1 a ha b hb
theorem y_gTo {S : mS} {h : HS} {s i d : Nat} (hL : Ly S) (hr : RM S h) (hv : VH h) (hs : s < h.f) (hi : i < h.w) (hd : d < 5) : f_X7_givesTo (nI 83) (nI s) (nI i) (nI d) S = some (nI (aG h s i d)) := by
  have hw := hv.1
  have hf := hv.2.1
  have i3 : i < 3 := by omega
  have s7 : s < 7 := by omega
  unfold f_X7_givesTo
  simp only [gc_0 hL, gc_1 hL, gc_2 hL, gc_3 hL, gc_4 hL, gc_5 hL, i3, s7, (hr.2.2.2.2 s hs).2, (hr.2.2.2.1 i hi).2, hr.2.2.1, y_wTh hL hr hv hi (hv.2.2.2.1 i hi).2 hd hv.2.2.1, mCp_e, y_sTh hL hr hv hs (hv.2.2.2.2 s hs).2 (aT_lt hv hi hd)]
  rw [show pMv (h.wc i) d (pR (h.wk i) h.t) = aT h i d h.t from rfl, y_sTh hL hr hv hs (hv.2.2.2.2 s hs).2 (aT_lt hv hi hd)]
  rfl
/-! one number of it anew -/
def setT (h : HS) (t : Nat) : HS := (h.w, h.f, t, h.wk, h.wc, h.sk, h.sc)
def setW (h : HS) (i v : Nat) : HS := (h.w, h.f, h.t, h.wk, fun j => if j = i then v else h.wc j, h.sk, h.sc)
def setS (h : HS) (s v : Nat) : HS := (h.w, h.f, h.t, h.wk, h.wc, h.sk, fun j => if j = s then v else h.sc j)
theorem RH_T {S : mS} {o t : Nat} {h : HS} (hr : RH S o h) : RH (mPut S o 6 (nI t)) o (setT h t) := by
  obtain ⟨h1, h2, h3, h4, h5⟩ := hr
  refine ⟨by rw [mPut_g, if_neg (by omega)]; exact h1, by rw [mPut_g, if_neg (by omega)]; exact h2, by rw [mPut_g, if_pos ⟨rfl, rfl⟩]; rfl, fun i hi => ?_, fun i hi => ?_⟩
  · rw [mPut_r _ _ _ _ _ (by omega), mPut_r _ _ _ _ _ (by omega)]
    exact h4 i hi
  · rw [mPut_r _ _ _ _ _ (by omega), mPut_r _ _ _ _ _ (by omega)]
    exact h5 i hi
theorem RH_W {S : mS} {o i v : Nat} {h : HS} (hr : RH S o h) : RH (mPut S (o + 2) i (nI v)) o (setW h i v) := by
  obtain ⟨h1, h2, h3, h4, h5⟩ := hr
  refine ⟨by rw [mPut_r _ _ _ _ _ (by omega)]; exact h1, by rw [mPut_r _ _ _ _ _ (by omega)]; exact h2, by rw [mPut_r _ _ _ _ _ (by omega)]; exact h3, fun j hj => ?_, fun j hj => ?_⟩
  · rw [mPut_r _ _ _ _ _ (by omega), mPut_g]
    refine ⟨(h4 j hj).1, ?_⟩
    show _ = nI (if j = i then v else h.wc j)
    by_cases e : j = i
    · rw [if_pos e, if_pos ⟨rfl, e⟩]
    · rw [if_neg e, if_neg (fun z => e z.2)]
      exact (h4 j hj).2
  · rw [mPut_r _ _ _ _ _ (by omega), mPut_r _ _ _ _ _ (by omega)]
    exact h5 j hj
theorem RH_S {S : mS} {o s v : Nat} {h : HS} (hr : RH S o h) : RH (mPut S (o + 4) s (nI v)) o (setS h s v) := by
  obtain ⟨h1, h2, h3, h4, h5⟩ := hr
  refine ⟨by rw [mPut_r _ _ _ _ _ (by omega)]; exact h1, by rw [mPut_r _ _ _ _ _ (by omega)]; exact h2, by rw [mPut_r _ _ _ _ _ (by omega)]; exact h3, fun j hj => ?_, fun j hj => ?_⟩
  · rw [mPut_r _ _ _ _ _ (by omega), mPut_r _ _ _ _ _ (by omega)]
    exact h4 j hj
  · rw [mPut_r _ _ _ _ _ (by omega), mPut_g]
    refine ⟨(h5 j hj).1, ?_⟩
    show _ = nI (if j = s then v else h.sc j)
    by_cases e : j = s
    · rw [if_pos e, if_pos ⟨rfl, e⟩]
    · rw [if_neg e, if_neg (fun z => e z.2)]
      exact (h5 j hj).2
theorem RM_T {S : mS} {t : Nat} {h : HS} (hr : RM S h) : RM (mPut S 83 4 (nI t)) (setT h t) := by
  obtain ⟨h1, h2, h3, h4, h5⟩ := hr
  refine ⟨by rw [mPut_g, if_neg (by omega)]; exact h1, by rw [mPut_g, if_neg (by omega)]; exact h2, by rw [mPut_g, if_pos ⟨rfl, rfl⟩]; rfl, fun i hi => ?_, fun i hi => ?_⟩
  · rw [mPut_r _ _ _ _ _ (by omega), mPut_r _ _ _ _ _ (by omega)]
    exact h4 i hi
  · rw [mPut_r _ _ _ _ _ (by omega), mPut_r _ _ _ _ _ (by omega)]
    exact h5 i hi
theorem RM_W {S : mS} {i v : Nat} {h : HS} (hr : RM S h) : RM (mPut S 86 i (nI v)) (setW h i v) := by
  obtain ⟨h1, h2, h3, h4, h5⟩ := hr
  refine ⟨by rw [mPut_r _ _ _ _ _ (by omega)]; exact h1, by rw [mPut_r _ _ _ _ _ (by omega)]; exact h2, by rw [mPut_r _ _ _ _ _ (by omega)]; exact h3, fun j hj => ?_, fun j hj => ?_⟩
  · rw [mPut_r _ _ _ _ _ (by omega), mPut_g]
    refine ⟨(h4 j hj).1, ?_⟩
    show _ = nI (if j = i then v else h.wc j)
    by_cases e : j = i
    · rw [if_pos e, if_pos ⟨rfl, e⟩]
    · rw [if_neg e, if_neg (fun z => e z.2)]
      exact (h4 j hj).2
  · rw [mPut_r _ _ _ _ _ (by omega), mPut_r _ _ _ _ _ (by omega)]
    exact h5 j hj
theorem RM_S {S : mS} {s v : Nat} {h : HS} (hr : RM S h) : RM (mPut S 88 s (nI v)) (setS h s v) := by
  obtain ⟨h1, h2, h3, h4, h5⟩ := hr
  refine ⟨by rw [mPut_r _ _ _ _ _ (by omega)]; exact h1, by rw [mPut_r _ _ _ _ _ (by omega)]; exact h2, by rw [mPut_r _ _ _ _ _ (by omega)]; exact h3, fun j hj => ?_, fun j hj => ?_⟩
  · rw [mPut_r _ _ _ _ _ (by omega), mPut_r _ _ _ _ _ (by omega)]
    exact h4 j hj
  · rw [mPut_r _ _ _ _ _ (by omega), mPut_g]
    refine ⟨(h5 j hj).1, ?_⟩
    show _ = nI (if j = s then v else h.sc j)
    by_cases e : j = s
    · rw [if_pos e, if_pos ⟨rfl, e⟩]
    · rw [if_neg e, if_neg (fun z => e z.2)]
      exact (h5 j hj).2
/-- what is said of places that count alone -/
def eqH (h g : HS) : Prop := h.w = g.w ∧ h.f = g.f ∧ h.t = g.t ∧ (∀ i, i < g.w → h.wk i = g.wk i ∧ h.wc i = g.wc i) ∧ ∀ i, i < g.f → h.sk i = g.sk i ∧ h.sc i = g.sc i
theorem RH_cg {S : mS} {o : Nat} {h g : HS} (hr : RH S o h) (e : eqH h g) : RH S o g := by
  obtain ⟨h1, h2, h3, h4, h5⟩ := hr
  obtain ⟨e1, e2, e3, e4, e5⟩ := e
  exact ⟨by rw [← e1]; exact h1, by rw [← e2]; exact h2, by rw [← e3]; exact h3, fun i hi => by rw [← (e4 i hi).1, ← (e4 i hi).2]; exact h4 i (by rw [e1]; exact hi), fun i hi => by rw [← (e5 i hi).1, ← (e5 i hi).2]; exact h5 i (by rw [e2]; exact hi)⟩
theorem RM_cg {S : mS} {h g : HS} (hr : RM S h) (e : eqH h g) : RM S g := by
  obtain ⟨h1, h2, h3, h4, h5⟩ := hr
  obtain ⟨e1, e2, e3, e4, e5⟩ := e
  exact ⟨by rw [← e1]; exact h1, by rw [← e2]; exact h2, by rw [← e3]; exact h3, fun i hi => by rw [← (e4 i hi).1, ← (e4 i hi).2]; exact h4 i (by rw [e1]; exact hi), fun i hi => by rw [← (e5 i hi).1, ← (e5 i hi).2]; exact h5 i (by rw [e2]; exact hi)⟩
/-- a call, when j sheep have given way -/
def hJ (h : HS) (i d j : Nat) : HS := (h.w, h.f, h.t, h.wk, fun q => if q = i then aT h i d h.t else h.wc q, h.sk, fun s => if s < j then aG h s i d else h.sc s)
theorem hJ_s (h : HS) (i d j : Nat) : setS (hJ h i d j) j (aG h j i d) = hJ h i d (j + 1) := by
  unfold setS hJ
  congr 6
  funext s
  show (if s = j then aG h j i d else if s < j then aG h s i d else h.sc s) = if s < j + 1 then aG h s i d else h.sc s
  by_cases e : s = j
  · subst e
    rw [if_pos rfl, if_pos (by omega)]
  · rw [if_neg e]
    by_cases e2 : s < j
    · rw [if_pos e2, if_pos (by omega)]
    · rw [if_neg e2, if_neg (by omega)]
theorem x_call {S : mS} {o : Nat} {h : HS} {i d : Nat} (ho : HO o) (hL : Ly S) (hr : RH S o h) (hv : VH h) (hi : i < h.w) (hd : d < 5) : ∃ S1, f_X1_call (nI o) (nI i) (nI d) S = some (nI (nC h i d), S1) ∧ Ly S1 ∧ RH S1 o (hC h i d) ∧ Fr o (o + 5) S S1 := by
  have hw := hv.1
  have hf := hv.2.1
  have ht := hv.2.2.1
  have i3 : i < 3 := by omega
  have hL1 : Ly (mPut S (o + 2) i (nI (aT h i d h.t))) := Ly_put hL ((hcf ho).2.2.1 i)
  have hr1 := RH_W (i := i) (v := aT h i d h.t) hr
  obtain ⟨m, ⟨a, S2⟩, ⟨p1, p2, p3, p4⟩, e⟩ := lupI (fun n j (s : Int32 × mS) => f_X1_call_25 f_X1_call_89 n (nI o) (nI i) s.1 (nI j) s.2) (fun j (s : Int32 × mS) => s.1 = nI (cnt (fun s => decide (aG h s i d ≠ h.sc s)) j) ∧ Ly s.2 ∧ RH s.2 o (hJ h i d j) ∧ Fr o (o + 5) S s.2) h.f (by
    rintro n j ⟨a, T⟩ hj ⟨(q1 : a = _), (q2 : Ly T), (q3 : RH T o _), (q4 : Fr o (o + 5) S T)⟩
    have j7 : j < 7 := by omega
    have k := hv.2.2.2.2 j hj
    have gt := aT_lt (t := h.t) hv hi hd
    have hsc : T.2.1 (o + 4) j = nI (h.sc j) := by rw [(q3.2.2.2.2 j hj).2]; show nI (if j < j then _ else _) = _; rw [if_neg (by omega)]
    have hsk : T.2.1 (o + 3) j = nI (h.sk j) := (q3.2.2.2.2 j hj).1
    have hwc : T.2.1 (o + 2) i = nI (aT h i d h.t) := by rw [(q3.2.2.2.1 i hi).2]; show nI (if i = i then _ else _) = _; rw [if_pos rfl]
    have hff : T.2.1 o 5 = nI h.f := q3.2.1
    have ge : (nI (aG h j i d) = nI (h.sc j)) = (aG h j i d = h.sc j) := eq_i (by have := aG_lt hv hj hi hd; omega) (by omega)
    refine ⟨(nI (cnt (fun s => decide (aG h s i d ≠ h.sc s)) (j + 1)), mPut T (o + 4) j (nI (aG h j i d))), ⟨rfl, Ly_put q2 ((hcf ho).2.2.2.2 j), ?_, Fr_tr q4 (Fr_put (by omega) (by omega))⟩, ?_⟩
    · rw [← hJ_s]
      exact RH_S q3
    · show f_X1_call_25 f_X1_call_89 (n + 1) (nI o) (nI i) a (nI j) T = _
      rw [f_X1_call_25_s]
      simp only [hgs ho q2, hff, le_i (show h.f < 2147483648 by omega) (show j < 2147483648 by omega), Nat.not_le.mpr hj, if_false, j7, hsk, hsc, i3, hwc, x_gives _ k.1 _ k.2 _ gt, mCp_e, f_X1_call_74]
      rw [show pGv (h.sk j) (h.sc j) (aT h i d h.t) = aG h j i d from rfl]
      simp only [ge]
      unfold cnt
      by_cases c : aG h j i d = h.sc j
      · rw [if_pos c, if_neg (by simp [c])]
        simp only [q1, nI_1, hgs ho q2, j7, Nat.add_zero]
      · rw [if_neg c, if_pos (by simp [c])]
        simp only [q1, nI_1, hgs ho q2, j7]) 1000 (nI 0, mPut S (o + 2) i (nI (aT h i d h.t))) ⟨rfl, hL1, RH_cg hr1 ⟨rfl, rfl, rfl, fun j hj => ⟨rfl, rfl⟩, fun j hj => ⟨rfl, rfl⟩⟩, Fr_put (by omega) (by omega)⟩ (by omega)
  have ht2 : S2.2.1 o 6 = nI h.t := p3.2.2.1
  refine ⟨mPut S2 o 6 (nI (h.t + 1)), ?_, Ly_put p2 (hcf ho).1.2.2, RH_cg (RH_T p3) ⟨rfl, rfl, rfl, fun j hj => ⟨rfl, rfl⟩, fun s hs => ⟨rfl, ?_⟩⟩, Fr_tr p4 (Fr_put (by omega) (by omega))⟩
  · simp only [f_X1_call, hgs ho hL, x_hasW _ ho hL hr (by omega), dN_nI hi (by omega), mCp_e, if_true, n10, if_false, i3, x_wTo ho hL hr hv hi hd]
    refine Eq.trans e ?_
    show f_X1_call_25 f_X1_call_89 (m + 1) (nI o) (nI i) a (nI h.f) S2 = _
    have hff : S2.2.1 o 5 = nI h.f := p3.2.1
    have p1' : a = nI (nC h i d) := p1
    rw [f_X1_call_25_s]
    simp only [hgs ho p2, hff, ng_i, if_true, f_X1_call_89, ht2, nI_1, p1']
  · show (if s < h.f then aG h s i d else h.sc s) = aG h s i d
    exact if_pos hs
/-- the reference's own cells where all are -/
def FM (S S1 : mS) : Prop := S1.1 = S.1 ∧ (∀ k, k ≠ 83 → k ≠ 86 → k ≠ 88 → S1.2.1 k = S.2.1 k) ∧ (∀ j, j ≠ 4 → S1.2.1 83 j = S.2.1 83 j) ∧ S1.2.2 = S.2.2
theorem FM_rf {S : mS} : FM S S := ⟨rfl, fun _ _ _ _ => rfl, fun _ _ => rfl, rfl⟩
theorem FM_tr {S S1 S2 : mS} (a : FM S S1) (b : FM S1 S2) : FM S S2 := ⟨b.1.trans a.1, fun k x y z => (b.2.1 k x y z).trans (a.2.1 k x y z), fun j x => (b.2.2.1 j x).trans (a.2.2.1 j x), b.2.2.2.trans a.2.2.2⟩
theorem FM_put {S : mS} {k j : Nat} {v : Int32} (h : (k = 83 ∧ j = 4) ∨ k = 86 ∨ k = 88) : FM S (mPut S k j v) := ⟨rfl, fun q a b c => mPut_r _ _ _ _ _ (by omega), fun q hq => by rw [mPut_g, if_neg (by omega)], rfl⟩
theorem FM_TM {S S1 : mS} (f : FM S S1) : TM S S1 := ⟨f.1, fun k hk => f.2.1 k (by omega) (by omega) (by omega), f.2.2.1 16 (by decide), fun j _ => by rw [f.2.2.2]⟩
def setH (k : KS) (h : HS) : KS := (h, k.fold, k.seen, k.notes, k.marks, k.past)
theorem CK_h {S S1 : mS} {k : KS} {o : Nat} {h : HS} (f : Fr (o + 1) (o + 6) S S1) (c : CK S o k) (hr : RH S1 (o + 1) h) (hw : h.w = k.h.w) (hf : h.f = k.h.f) : CK S1 o (setH k h) := by
  obtain ⟨c1, c2, c3, c4, c5, c6⟩ := c
  refine ⟨by rw [f.2.1 o (by omega)]; exact c1, hr, RR_sa (f.2.1 _ (by omega)) (f.2.1 _ (by omega)) c3, RR_sa (f.2.1 _ (by omega)) (f.2.1 _ (by omega)) c4, RR_sa (f.2.1 _ (by omega)) (f.2.1 _ (by omega)) c5, ?_⟩
  show RP S1 (o + 12) 1 (o + 13) 0 h.w h.f k.past
  rw [hw, hf]
  exact RP_sa (f.2.1 _ (by omega)) (f.2.1 _ (by omega)) c6
theorem RR_f {S S' : mS} {q j a b s w : Nat} {p : RW} (h1 : S'.2.1 q j = S.2.1 q j) (h2 : S'.2.1 a = S.2.1 a) (h : RR S q j a b s w p) : RR S' q j a b s w p := by
  unfold RR
  rw [h1, h2]
  exact h
theorem RP_f {S S' : mS} {q j a b w f : Nat} {p : RW} (h1 : S'.2.1 q j = S.2.1 q j) (h2 : S'.2.1 a = S.2.1 a) (h : RP S q j a b w f p) : RP S' q j a b w f p := by
  unfold RP
  rw [h1, h2]
  exact h
theorem MK_h {S S1 : mS} {k : KS} {h : HS} (f : FM S S1) (c : MK S k) (hr : RM S1 h) (hw : h.w = k.h.w) (hf : h.f = k.h.f) : MK S1 (setH k h) := by
  obtain ⟨c1, c2, c3, c4, c5, c6⟩ := c
  refine ⟨(f.2.2.1 3 (by decide)).trans c1, hr, RR_f (f.2.2.1 _ (by decide)) (f.2.1 _ (by decide) (by decide) (by decide)) c3, RR_f (f.2.2.1 _ (by decide)) (f.2.1 _ (by decide) (by decide) (by decide)) c4, RR_f (f.2.2.1 _ (by decide)) (f.2.1 _ (by decide) (by decide) (by decide)) c5, ?_⟩
  show RP S1 83 21 94 0 h.w h.f k.past
  rw [hw, hf]
  exact RP_f (f.2.2.1 _ (by decide)) (f.2.1 _ (by decide) (by decide) (by decide)) c6
theorem y_comes {S : mS} {h : HS} {i d : Nat} (hL : Ly S) (hr : RM S h) (hv : VH h) (hi : i < h.w) (hd : d < 5) : ∃ S1, f_X7_comes (nI 83) (nI i) (nI d) S = some (nI (nC h i d), S1) ∧ Ly S1 ∧ RM S1 (hC h i d) ∧ FM S S1 := by
  have hw := hv.1
  have hf := hv.2.1
  have ht := hv.2.2.1
  have i3 : i < 3 := by omega
  have hL1 : Ly (mPut S 86 i (nI (aT h i d h.t))) := Ly_put hL (cst_arr (Or.inl rfl))
  have hr1 := RM_W (i := i) (v := aT h i d h.t) hr
  obtain ⟨m, ⟨a, S2⟩, ⟨p1, p2, p3, p4⟩, e⟩ := lupI (fun n j (s : Int32 × mS) => f_X7_comes_27 f_X7_comes_92 n (nI 83) (nI i) s.1 (nI j) s.2) (fun j (s : Int32 × mS) => s.1 = nI (cnt (fun s => decide (aG h s i d ≠ h.sc s)) j) ∧ Ly s.2 ∧ RM s.2 (hJ h i d j) ∧ FM S s.2) h.f (by
    rintro n j ⟨a, T⟩ hj ⟨(q1 : a = _), (q2 : Ly T), (q3 : RM T _), (q4 : FM S T)⟩
    have j7 : j < 7 := by omega
    have k := hv.2.2.2.2 j hj
    have gt := aT_lt (t := h.t) hv hi hd
    have hvJ : VH (hJ h i d j) := ⟨hv.1, hv.2.1, hv.2.2.1, fun q hq => ⟨(hv.2.2.2.1 q hq).1, by show (if q = i then _ else _) < 25; split <;> first | exact gt | exact (hv.2.2.2.1 q hq).2⟩, fun q hq => ⟨(hv.2.2.2.2 q hq).1, by show (if q < j then _ else _) < 25; split <;> first | exact aG_lt hv hq hi hd | exact (hv.2.2.2.2 q hq).2⟩⟩
    have hsc : T.2.1 88 j = nI (h.sc j) := by rw [(q3.2.2.2.2 j hj).2]; show nI (if j < j then _ else _) = _; rw [if_neg (by omega)]
    have hwc : T.2.1 86 i = nI (aT h i d h.t) := by rw [(q3.2.2.2.1 i hi).2]; show nI (if i = i then _ else _) = _; rw [if_pos rfl]
    have hff : T.2.1 83 2 = nI h.f := q3.2.1
    have ge : (nI (aG h j i d) = nI (h.sc j)) = (aG h j i d = h.sc j) := eq_i (by have := aG_lt hv hj hi hd; omega) (by omega)
    have hst : f_X7_sheepThen (nI 83) (nI j) (nI (h.sc j)) (nI (aT h i d h.t)) T = some (nI (aG h j i d)) := y_sTh (h := hJ h i d j) q2 q3 hvJ hj k.2 gt
    refine ⟨(nI (cnt (fun s => decide (aG h s i d ≠ h.sc s)) (j + 1)), mPut T 88 j (nI (aG h j i d))), ⟨rfl, Ly_put q2 (cst_arr (Or.inl rfl)), ?_, FM_tr q4 (FM_put (by omega))⟩, ?_⟩
    · rw [← hJ_s]
      exact RM_S q3
    · show f_X7_comes_27 f_X7_comes_92 (n + 1) (nI 83) (nI i) a (nI j) T = _
      rw [f_X7_comes_27_s]
      simp only [gc_0 q2, gc_1 q2, gc_2 q2, gc_3 q2, gc_4 q2, gc_5 q2, hff, le_i (show h.f < 2147483648 by omega) (show j < 2147483648 by omega), Nat.not_le.mpr hj, if_false, j7, hsc, i3, hwc, hst, mCp_e, f_X7_comes_75, ge]
      unfold cnt
      by_cases c : aG h j i d = h.sc j
      · rw [if_pos c, if_neg (by simp [c])]
        simp only [q1, nI_1, gc_0 q2, gc_1 q2, gc_2 q2, gc_3 q2, gc_4 q2, gc_5 q2, j7, Nat.add_zero, Int32.add_zero]
      · rw [if_neg c, if_pos (by simp [c])]
        simp only [q1, nI_1, gc_0 q2, gc_1 q2, gc_2 q2, gc_3 q2, gc_4 q2, gc_5 q2, j7]) 1000 (nI 0, mPut S 86 i (nI (aT h i d h.t))) ⟨rfl, hL1, RM_cg hr1 ⟨rfl, rfl, rfl, fun j hj => ⟨rfl, rfl⟩, fun j hj => ⟨rfl, rfl⟩⟩, FM_put (by omega)⟩ (by omega)
  have ht2 : S2.2.1 83 4 = nI h.t := p3.2.2.1
  refine ⟨mPut S2 83 4 (nI (h.t + 1)), ?_, Ly_put p2 (by decide), RM_cg (RM_T p3) ⟨rfl, rfl, rfl, fun j hj => ⟨rfl, rfl⟩, fun s hs => ⟨rfl, if_pos hs⟩⟩, FM_tr p4 (FM_put (by omega))⟩
  simp only [f_X7_comes, gc_0 hL, gc_1 hL, gc_2 hL, gc_3 hL, gc_4 hL, gc_5 hL, mCp_e, i3, (hr.2.2.2.1 i hi).2, hr.2.2.1, y_wTh hL hr hv hi (hv.2.2.2.1 i hi).2 hd ht]
  refine Eq.trans e ?_
  show f_X7_comes_27 f_X7_comes_92 (m + 1) (nI 83) (nI i) a (nI h.f) S2 = _
  have hff : S2.2.1 83 2 = nI h.f := p3.2.1
  have p1' : a = nI (nC h i d) := p1
  rw [f_X7_comes_27_s]
  simp only [gc_0 p2, gc_1 p2, gc_2 p2, gc_3 p2, gc_4 p2, gc_5 p2, hff, ng_i, if_true, f_X7_comes_92, ht2, nI_1, p1']
