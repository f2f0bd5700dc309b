/-! sets as bits -/
def tb (v : Int32) (j : Nat) : Bool := v.toBitVec.getLsbD j
theorem tb_or (a b : Int32) (j : Nat) : tb (a ||| b) j = (tb a j || tb b j) := by
  unfold tb
  rw [Int32.toBitVec_or, BitVec.getLsbD_or]
theorem tb_and (a b : Int32) (j : Nat) : tb (a &&& b) j = (tb a j && tb b j) := by
  unfold tb
  rw [Int32.toBitVec_and, BitVec.getLsbD_and]
theorem tb_one : ∀ n, n < 32 → ∀ j, j < 32 → tb (1 <<< (nI n &&& 31)) j = decide (j = n) := by decide +kernel
theorem tb_0 (j : Nat) : tb 0 j = false := by
  unfold tb
  rw [show (0 : Int32).toBitVec = 0#32 from rfl, BitVec.getLsbD_zero]
theorem tb_ext {a b : Int32} (h : ∀ j, j < 32 → tb a j = tb b j) : a = b := Int32.toBitVec_inj.mp (BitVec.eq_of_getLsbD_eq h)
theorem sm31 : ∀ j, j < 32 → ((nI j &&& 31).toBitVec.smod 32).toNat = j := by decide +kernel
theorem tb_has {v : Int32} {j : Nat} (h : j < 32) : (((v >>> (nI j &&& 31)) &&& 1) = 1) = (tb v j = true) := by
  apply propext
  have hz : ∀ x : Int32, (x &&& 1 = 1) ↔ tb x 0 = true := fun x => by
    rw [pk_and x 1 rfl, show (1 : Int32) = nI 1 from rfl, nI_eq (by have := Nat.mod_lt x.toBitVec.toNat (show 0 < 2 ^ 1 by decide); omega) (by decide)]
    unfold tb
    rw [← BitVec.testBit_toNat, Nat.testBit_zero, decide_eq_true_eq]
  rw [hz]
  unfold tb
  rw [Int32.toBitVec_shiftRight, BitVec.sshiftRight_eq', sm31 j h, BitVec.getLsbD_sshiftRight]
  simp [h]
theorem x_hasB {v : Int32} {j : Nat} (h : j < 32) : f_X6_hasBit v (nI j) = some (if tb v j = true then 1 else 0) ∧ f_X7_has v (nI j) = some (if tb v j = true then 1 else 0) := by
  unfold f_X6_hasBit f_X7_has f_X6_hasBit_14 f_X7_has_14
  simp (maxDischargeDepth := 40) only [tb_has h]
  by_cases c : tb v j = true
  · simp (maxDischargeDepth := 40) only [c, if_true, mZ_1]
    exact ⟨trivial, trivial⟩
  · simp (maxDischargeDepth := 40) only [c, Bool.false_eq_true, if_false, mZ_0]
    exact ⟨trivial, trivial⟩
def bI (p : Nat → Bool) : Nat → Int32
  | 0 => nI 0
  | n + 1 => if p n = true then bI p n ||| (1 <<< (nI n &&& 31)) else bI p n
theorem bI_tb (p : Nat → Bool) (n : Nat) (hn : n ≤ 32) (j : Nat) (hj : j < 32) : tb (bI p n) j = (decide (j < n) && p j) := by
  induction n with
  | zero => exact tb_0 j
  | succ n ih =>
    unfold bI
    have ih := ih (by omega)
    by_cases c : p n = true
    · rw [if_pos c, tb_or, ih, tb_one n (by omega) j hj]
      by_cases e : j = n
      · subst e
        simp [c]
      · by_cases l : j < n
        · simp [l, e, show j < n + 1 by omega]
        · simp [l, e, show ¬ j < n + 1 by omega]
    · rw [if_neg c, ih]
      by_cases e : j = n
      · subst e
        simp [c]
      · by_cases l : j < n
        · simp [l, show j < n + 1 by omega]
        · simp [l, show ¬ j < n + 1 by omega]
theorem bI_eq {p q : Nat → Bool} {n : Nat} (h : ∀ j, j < n → p j = q j) : bI p n = bI q n := by
  induction n with
  | zero => rfl
  | succ n ih =>
    unfold bI
    rw [ih (fun j hj => h j (by omega)), h n (by omega)]
theorem bI_cnt {p : Nat → Bool} {n : Nat} (hn : n ≤ 7) : f_J6_bitCount_0f7a4 (bI p n) = some (nI (cnt p n)) := by
  rcases (show n = 0 ∨ n = 1 ∨ n = 2 ∨ n = 3 ∨ n = 4 ∨ n = 5 ∨ n = 6 ∨ n = 7 by omega) with rfl | rfl | rfl | rfl | rfl | rfl | rfl | rfl <;> simp (maxDischargeDepth := 40) only [bI, cnt] <;> generalize p 0 = b0 <;> generalize p 1 = b1 <;> generalize p 2 = b2 <;> generalize p 3 = b3 <;> generalize p 4 = b4 <;> generalize p 5 = b5 <;> generalize p 6 = b6
  · rfl
  · revert b0; decide +kernel
  · revert b0 b1; decide +kernel
  · revert b0 b1 b2; decide +kernel
  · revert b0 b1 b2 b3; decide +kernel
  · revert b0 b1 b2 b3 b4; decide +kernel
  · revert b0 b1 b2 b3 b4 b5; decide +kernel
  · revert b0 b1 b2 b3 b4 b5 b6; decide +kernel
/-! who is in a cell -/
def inC (h : HS) (c s : Nat) : Bool := decide (h.sc s = c)
theorem x_sIn {S : mS} {o c : Nat} {h : HS} (ho : HO o) (hL : Ly S) (hr : RH S o h) (hv : VH h) (hc : c < 25) : f_X1_sheepIn (nI o) (nI c) S = some (bI (inC h c) h.f) := by
  have hf := hv.2.1
  obtain ⟨m, e⟩ := lup (fun n j => f_X1_sheepIn_4 (f_X1_sheepIn_34 S) S n (nI o) (nI c) (bI (inC h c) j) (nI j)) h.f (fun n j hj => by
    have j7 : j < 7 := by omega
    have le : (nI h.f ≤ nI j) = False := eq_false (nI_ge hj (by omega))
    have q : (nI (h.sc j) = nI c) = (inC h c j = true) := by
      rw [eq_i (by have := (hv.2.2.2.2 j hj).2; omega) (by omega)]
      unfold inC
      rw [decide_eq_true_eq]
    rw [f_X1_sheepIn_4_s]
    simp (maxDischargeDepth := 40) only [hgs ho hL, hr.2.1, le, j7, (hr.2.2.2.2 j hj).2, q, f_X1_sheepIn_28, nI_1, mCp_e, mC_e, mCv_e, mZ_0, mZ_1, mZ_ifb, if_true, if_false, n10, eq_self, reduceCtorEq, Bool.false_eq_true, Nat.add_zero, Nat.reduceAdd]
    show _ = f_X1_sheepIn_4 (f_X1_sheepIn_34 S) S n (nI o) (nI c) (if inC h c j = true then _ else _) (nI (j + 1))
    by_cases d : inC h c j = true
    · rw [if_pos d, if_pos d]
    · rw [if_neg d, if_neg d]) 1000 (by omega)
  unfold f_X1_sheepIn
  refine Eq.trans e ?_
  rw [f_X1_sheepIn_4_s]
  simp (maxDischargeDepth := 40) only [hgs ho hL, hr.2.1, ng_i, f_X1_sheepIn_34, mCp_e, mC_e, mCv_e, mZ_0, mZ_1, mZ_ifb, if_true, if_false, n10, eq_self, reduceCtorEq, Bool.false_eq_true, Nat.add_zero, Nat.reduceAdd]
theorem x_mIn {S : mS} {o c : Nat} {h : HS} (ho : HO o) (hL : Ly S) (hr : RH S o h) (hv : VH h) (hc : c < 25) : f_X1_manyIn (nI o) (nI c) S = some (nI (cnt (inC h c) h.f)) := by
  simp (maxDischargeDepth := 40) only [f_X1_manyIn, hgs ho hL, x_sIn ho hL hr hv hc, bI_cnt hv.2.1, mCp_e, mC_e, mCv_e, mZ_0, mZ_1, mZ_ifb, if_true, if_false, n10, eq_self, reduceCtorEq, Bool.false_eq_true, Nat.add_zero, Nat.reduceAdd]
theorem y_fIn {S : mS} {c : Nat} {h : HS} (hL : Ly S) (hr : RM S h) (hv : VH h) (h3 : S.2.1 83 3 = nI c) (hc : c < 25) : f_X7_foldedIn (nI 83) S = some (bI (inC h c) h.f) := by
  have hf := hv.2.1
  obtain ⟨m, e⟩ := lup (fun n j => f_X7_foldedIn_4 (f_X7_foldedIn_41 S) S n (nI 83) (bI (inC h c) j) (nI j)) h.f (fun n j hj => by
    have j7 : j < 7 := by omega
    have le : (nI h.f ≤ nI j) = False := eq_false (nI_ge hj (by omega))
    have q : (nI (h.sc j) = nI c) = (inC h c j = true) := by
      rw [eq_i (by have := (hv.2.2.2.2 j hj).2; omega) (by omega)]
      unfold inC
      rw [decide_eq_true_eq]
    rw [f_X7_foldedIn_4_s]
    simp (maxDischargeDepth := 40) only [hL, gc_0, gc_1, gc_2, gc_3, gc_4, gc_5, Ly_put, kcf, kca, hr.2.1, le, j7, (hr.2.2.2.2 j hj).2, h3, q, f_X7_foldedIn_33, nI_1, mCp_e, mC_e, mCv_e, mZ_0, mZ_1, mZ_ifb, if_true, if_false, n10, eq_self, reduceCtorEq, Bool.false_eq_true, Nat.add_zero, Nat.reduceAdd]
    show _ = f_X7_foldedIn_4 (f_X7_foldedIn_41 S) S n (nI 83) (if inC h c j = true then _ else _) (nI (j + 1))
    by_cases d : inC h c j = true
    · rw [if_pos d, if_pos d]
    · rw [if_neg d, if_neg d, Int32.or_zero]) 1000 (by omega)
  unfold f_X7_foldedIn
  refine Eq.trans e ?_
  rw [f_X7_foldedIn_4_s]
  simp (maxDischargeDepth := 40) only [hL, gc_0, gc_1, gc_2, gc_3, gc_4, gc_5, Ly_put, kcf, kca, hr.2.1, ng_i, f_X7_foldedIn_41, mCp_e, mC_e, mCv_e, mZ_0, mZ_1, mZ_ifb, if_true, if_false, n10, eq_self, reduceCtorEq, Bool.false_eq_true, Nat.add_zero, Nat.reduceAdd]
theorem y_fMany {S : mS} {c : Nat} {h : HS} (hL : Ly S) (hr : RM S h) (hv : VH h) (h3 : S.2.1 83 3 = nI c) (hc : c < 25) : f_X7_foldedMany (nI 83) S = some (nI (cnt (inC h c) h.f)) := by
  have hf := hv.2.1
  obtain ⟨m, e⟩ := lup (fun n j => f_X7_foldedMany_4 (f_X7_foldedMany_39 S) S n (nI 83) (nI (cnt (inC h c) j)) (nI j)) h.f (fun n j hj => by
    have j7 : j < 7 := by omega
    have le : (nI h.f ≤ nI j) = False := eq_false (nI_ge hj (by omega))
    have q : (nI (h.sc j) = nI c) = (inC h c j = true) := by
      rw [eq_i (by have := (hv.2.2.2.2 j hj).2; omega) (by omega)]
      unfold inC
      rw [decide_eq_true_eq]
    rw [f_X7_foldedMany_4_s]
    simp (maxDischargeDepth := 40) only [hL, gc_0, gc_1, gc_2, gc_3, gc_4, gc_5, Ly_put, kcf, kca, hr.2.1, le, j7, (hr.2.2.2.2 j hj).2, h3, q, f_X7_foldedMany_31, nI_1, mCp_e, mC_e, mCv_e, mZ_0, mZ_1, mZ_ifb, if_true, if_false, n10, eq_self, reduceCtorEq, Bool.false_eq_true, Nat.add_zero, Nat.reduceAdd]
    show _ = f_X7_foldedMany_4 (f_X7_foldedMany_39 S) S n (nI 83) (nI (cnt _ j + (if inC h c j = true then 1 else 0))) (nI (j + 1))
    by_cases d : inC h c j = true
    · rw [if_pos d, if_pos d]
    · simp (maxDischargeDepth := 40) only [if_neg d, Int32.add_zero, Nat.add_zero]) 1000 (by omega)
  unfold f_X7_foldedMany
  refine Eq.trans e ?_
  rw [f_X7_foldedMany_4_s]
  simp (maxDischargeDepth := 40) only [hL, gc_0, gc_1, gc_2, gc_3, gc_4, gc_5, Ly_put, kcf, kca, hr.2.1, ng_i, f_X7_foldedMany_39, mCp_e, mC_e, mCv_e, mZ_0, mZ_1, mZ_ifb, if_true, if_false, n10, eq_self, reduceCtorEq, Bool.false_eq_true, Nat.add_zero, Nat.reduceAdd]
theorem o_folded {S : mS} (H : Inv S) : AgR (f_X6_folded (nI 0)) (f_X7_folded (nI 83)) S := by
  obtain ⟨k, I⟩ := Inv_k H
  have hL := I.1
  have hv : VH k.h := I.2.1.1
  have hr : RH S 2 k.h := I.2.2.1.2.1
  have hm : MK S k := I.2.2.2.1
  have hq : RM S k.h := hm.2.1
  have ho : HO 2 := Or.inl rfl
  have hw := hv.1
  have hf := hv.2.1
  have w7 : k.h.w ≤ 7 := by omega
  have hF : k.fold < 25 := I.2.1.2.2.1
  exact ⟨bI (inC k.h k.fold) k.h.f, by simp (maxDischargeDepth := 40) only [f_X6_folded, hL, gc_0, gc_1, gc_2, gc_3, gc_4, gc_5, Ly_put, kcf, kca, I.2.2.1.1, x_sIn ho hL hr hv hF, mCp_e, mC_e, mCv_e, mZ_0, mZ_1, mZ_ifb, if_true, if_false, n10, eq_self, reduceCtorEq, Bool.false_eq_true, Nat.add_zero, Nat.reduceAdd], by simp (maxDischargeDepth := 40) only [f_X7_folded, hL, gc_0, gc_1, gc_2, gc_3, gc_4, gc_5, Ly_put, kcf, kca, y_fIn hL hq hv hm.1 hF, mCp_e, mC_e, mCv_e, mZ_0, mZ_1, mZ_ifb, if_true, if_false, n10, eq_self, reduceCtorEq, Bool.false_eq_true, Nat.add_zero, Nat.reduceAdd]⟩
